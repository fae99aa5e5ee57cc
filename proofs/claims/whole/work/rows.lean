section
-- ===== PART A: goes FIRST, ahead of the names: the tables' words, and 'selects' of the private methods out of them =====
/-- a private method of a class that the tables say can be made, by its rows of tables_1 -/
def lw_okq (q : MethodName × Nat) : Prop := (q.1.cls ≠ "java/lang/invoke/MethodHandle" ∧ q.1.cls ≠ "java/lang/invoke/VarHandle") ∧ Cond.instantiable q.1.cls q.2 ∈ tables_1 ∧ Cond.privateMethod q.1 ∈ tables_1 ∧ Cond.instanceMethod q.1 ∈ tables_1
theorem lw_p0 : lw_okq (⟨"SyllableBook", "newPieceError", "(I)I"⟩, 12) := ⟨⟨by decide +kernel, by decide +kernel⟩, List.mem_of_getElem? (i := 14) (by decide +kernel), List.mem_of_getElem? (i := 238) (by decide +kernel), List.mem_of_getElem? (i := 239) (by decide +kernel)⟩
theorem lw_p1 : lw_okq (⟨"SyllableBook", "isPiece", "(I)Z"⟩, 12) := ⟨⟨by decide +kernel, by decide +kernel⟩, List.mem_of_getElem? (i := 14) (by decide +kernel), List.mem_of_getElem? (i := 285) (by decide +kernel), List.mem_of_getElem? (i := 286) (by decide +kernel)⟩
theorem lw_p2 : lw_okq (⟨"SyllableBook", "isWord", "(I)Z"⟩, 12) := ⟨⟨by decide +kernel, by decide +kernel⟩, List.mem_of_getElem? (i := 14) (by decide +kernel), List.mem_of_getElem? (i := 310) (by decide +kernel), List.mem_of_getElem? (i := 311) (by decide +kernel)⟩
theorem lw_p3 : lw_okq (⟨"SyllableBook", "findGrowing", "()I"⟩, 12) := ⟨⟨by decide +kernel, by decide +kernel⟩, List.mem_of_getElem? (i := 14) (by decide +kernel), List.mem_of_getElem? (i := 326) (by decide +kernel), List.mem_of_getElem? (i := 327) (by decide +kernel)⟩
theorem lw_p4 : lw_okq (⟨"SyllableBook", "cutBest", "(LSyllableBook$Contents;I)V"⟩, 12) := ⟨⟨by decide +kernel, by decide +kernel⟩, List.mem_of_getElem? (i := 14) (by decide +kernel), List.mem_of_getElem? (i := 330) (by decide +kernel), List.mem_of_getElem? (i := 331) (by decide +kernel)⟩
theorem lw_p5 : lw_okq (⟨"SyllableBook$BestCut", "findFirst", "(LSyllableBook$Lattice;II)V"⟩, 8) := ⟨⟨by decide +kernel, by decide +kernel⟩, List.mem_of_getElem? (i := 117) (by decide +kernel), List.mem_of_getElem? (i := 358) (by decide +kernel), List.mem_of_getElem? (i := 359) (by decide +kernel)⟩
theorem lw_p6 : lw_okq (⟨"SyllableBook$BestCut", "layOut", "(LSyllableBook$Lattice;I)V"⟩, 8) := ⟨⟨by decide +kernel, by decide +kernel⟩, List.mem_of_getElem? (i := 117) (by decide +kernel), List.mem_of_getElem? (i := 371) (by decide +kernel), List.mem_of_getElem? (i := 372) (by decide +kernel)⟩
theorem lw_p7 : lw_okq (⟨"SyllableBook", "partWeight", "(I)I"⟩, 12) := ⟨⟨by decide +kernel, by decide +kernel⟩, List.mem_of_getElem? (i := 14) (by decide +kernel), List.mem_of_getElem? (i := 377) (by decide +kernel), List.mem_of_getElem? (i := 378) (by decide +kernel)⟩
theorem lw_p8 : lw_okq (⟨"SyllableBook", "bearAll", "()V"⟩, 12) := ⟨⟨by decide +kernel, by decide +kernel⟩, List.mem_of_getElem? (i := 14) (by decide +kernel), List.mem_of_getElem? (i := 398) (by decide +kernel), List.mem_of_getElem? (i := 399) (by decide +kernel)⟩
theorem lw_p9 : lw_okq (⟨"SyllableBook$AllCuts", "addBehind", "(LSyllableBook$Lattice;I)V"⟩, 3) := ⟨⟨by decide +kernel, by decide +kernel⟩, List.mem_of_getElem? (i := 154) (by decide +kernel), List.mem_of_getElem? (i := 414) (by decide +kernel), List.mem_of_getElem? (i := 415) (by decide +kernel)⟩
theorem lw_p10 : lw_okq (⟨"SyllableBook", "findLeast", "()I"⟩, 12) := ⟨⟨by decide +kernel, by decide +kernel⟩, List.mem_of_getElem? (i := 14) (by decide +kernel), List.mem_of_getElem? (i := 435) (by decide +kernel), List.mem_of_getElem? (i := 436) (by decide +kernel)⟩
theorem lw_p11 : lw_okq (⟨"SyllableBook", "loseEach", "()V"⟩, 12) := ⟨⟨by decide +kernel, by decide +kernel⟩, List.mem_of_getElem? (i := 14) (by decide +kernel), List.mem_of_getElem? (i := 439) (by decide +kernel), List.mem_of_getElem? (i := 440) (by decide +kernel)⟩
theorem lw_p12 : lw_okq (⟨"SyllableBook", "timesInBestCuts", "(I)I"⟩, 12) := ⟨⟨by decide +kernel, by decide +kernel⟩, List.mem_of_getElem? (i := 14) (by decide +kernel), List.mem_of_getElem? (i := 454) (by decide +kernel), List.mem_of_getElem? (i := 455) (by decide +kernel)⟩
theorem lw_p13 : lw_okq (⟨"SyllableBook", "costOfAll", "(LSyllableBook$Contents;)I"⟩, 12) := ⟨⟨by decide +kernel, by decide +kernel⟩, List.mem_of_getElem? (i := 14) (by decide +kernel), List.mem_of_getElem? (i := 458) (by decide +kernel), List.mem_of_getElem? (i := 459) (by decide +kernel)⟩
theorem lw_p14 : lw_okq (⟨"SyllableBook", "lettersOfAll", "()I"⟩, 12) := ⟨⟨by decide +kernel, by decide +kernel⟩, List.mem_of_getElem? (i := 14) (by decide +kernel), List.mem_of_getElem? (i := 499) (by decide +kernel), List.mem_of_getElem? (i := 500) (by decide +kernel)⟩
theorem lw_p15 : lw_okq (⟨"SyllableBook", "partsOfAll", "()I"⟩, 12) := ⟨⟨by decide +kernel, by decide +kernel⟩, List.mem_of_getElem? (i := 14) (by decide +kernel), List.mem_of_getElem? (i := 503) (by decide +kernel), List.mem_of_getElem? (i := 504) (by decide +kernel)⟩
def lw_privs_1 : List (MethodName × Nat) := [(⟨"SyllableBook", "newPieceError", "(I)I"⟩, 12), (⟨"SyllableBook", "isPiece", "(I)Z"⟩, 12), (⟨"SyllableBook", "isWord", "(I)Z"⟩, 12), (⟨"SyllableBook", "findGrowing", "()I"⟩, 12), (⟨"SyllableBook", "cutBest", "(LSyllableBook$Contents;I)V"⟩, 12), (⟨"SyllableBook$BestCut", "findFirst", "(LSyllableBook$Lattice;II)V"⟩, 8), (⟨"SyllableBook$BestCut", "layOut", "(LSyllableBook$Lattice;I)V"⟩, 8), (⟨"SyllableBook", "partWeight", "(I)I"⟩, 12), (⟨"SyllableBook", "bearAll", "()V"⟩, 12), (⟨"SyllableBook$AllCuts", "addBehind", "(LSyllableBook$Lattice;I)V"⟩, 3), (⟨"SyllableBook", "findLeast", "()I"⟩, 12), (⟨"SyllableBook", "loseEach", "()V"⟩, 12), (⟨"SyllableBook", "timesInBestCuts", "(I)I"⟩, 12), (⟨"SyllableBook", "costOfAll", "(LSyllableBook$Contents;)I"⟩, 12), (⟨"SyllableBook", "lettersOfAll", "()I"⟩, 12), (⟨"SyllableBook", "partsOfAll", "()I"⟩, 12)]
theorem lw_r1 : ∀ q ∈ lw_privs_1, lw_okq q := List.forall_mem_cons.mpr ⟨lw_p0, List.forall_mem_cons.mpr ⟨lw_p1, List.forall_mem_cons.mpr ⟨lw_p2, List.forall_mem_cons.mpr ⟨lw_p3, List.forall_mem_cons.mpr ⟨lw_p4, List.forall_mem_cons.mpr ⟨lw_p5, List.forall_mem_cons.mpr ⟨lw_p6, List.forall_mem_cons.mpr ⟨lw_p7, List.forall_mem_cons.mpr ⟨lw_p8, List.forall_mem_cons.mpr ⟨lw_p9, List.forall_mem_cons.mpr ⟨lw_p10, List.forall_mem_cons.mpr ⟨lw_p11, List.forall_mem_cons.mpr ⟨lw_p12, List.forall_mem_cons.mpr ⟨lw_p13, List.forall_mem_cons.mpr ⟨lw_p14, List.forall_mem_cons.mpr ⟨lw_p15, fun _ h => absurd h List.not_mem_nil⟩⟩⟩⟩⟩⟩⟩⟩⟩⟩⟩⟩⟩⟩⟩⟩
theorem lw_p16 : lw_okq (⟨"SyllableBookModel", "whyNoPiece", "(I)I"⟩, 18) := ⟨⟨by decide +kernel, by decide +kernel⟩, List.mem_of_getElem? (i := 557) (by decide +kernel), List.mem_of_getElem? (i := 622) (by decide +kernel), List.mem_of_getElem? (i := 623) (by decide +kernel)⟩
theorem lw_p17 : lw_okq (⟨"SyllableBookModel", "padText", "(I)I"⟩, 18) := ⟨⟨by decide +kernel, by decide +kernel⟩, List.mem_of_getElem? (i := 557) (by decide +kernel), List.mem_of_getElem? (i := 626) (by decide +kernel), List.mem_of_getElem? (i := 627) (by decide +kernel)⟩
theorem lw_p18 : lw_okq (⟨"SyllableBookModel", "pieceOf", "(I)I"⟩, 18) := ⟨⟨by decide +kernel, by decide +kernel⟩, List.mem_of_getElem? (i := 557) (by decide +kernel), List.mem_of_getElem? (i := 633) (by decide +kernel), List.mem_of_getElem? (i := 634) (by decide +kernel)⟩
theorem lw_p19 : lw_okq (⟨"SyllableBookModel", "textOf", "(I)I"⟩, 18) := ⟨⟨by decide +kernel, by decide +kernel⟩, List.mem_of_getElem? (i := 557) (by decide +kernel), List.mem_of_getElem? (i := 637) (by decide +kernel), List.mem_of_getElem? (i := 638) (by decide +kernel)⟩
theorem lw_p20 : lw_okq (⟨"SyllableBookModel", "piecePart", "(II)I"⟩, 18) := ⟨⟨by decide +kernel, by decide +kernel⟩, List.mem_of_getElem? (i := 557) (by decide +kernel), List.mem_of_getElem? (i := 641) (by decide +kernel), List.mem_of_getElem? (i := 642) (by decide +kernel)⟩
theorem lw_p21 : lw_okq (⟨"SyllableBookModel", "record", "()V"⟩, 18) := ⟨⟨by decide +kernel, by decide +kernel⟩, List.mem_of_getElem? (i := 557) (by decide +kernel), List.mem_of_getElem? (i := 645) (by decide +kernel), List.mem_of_getElem? (i := 646) (by decide +kernel)⟩
theorem lw_p22 : lw_okq (⟨"SyllableBookModel", "addPiece", "(II)I"⟩, 18) := ⟨⟨by decide +kernel, by decide +kernel⟩, List.mem_of_getElem? (i := 557) (by decide +kernel), List.mem_of_getElem? (i := 652) (by decide +kernel), List.mem_of_getElem? (i := 653) (by decide +kernel)⟩
theorem lw_p23 : lw_okq (⟨"SyllableBookModel", "isPiece", "(I)Z"⟩, 18) := ⟨⟨by decide +kernel, by decide +kernel⟩, List.mem_of_getElem? (i := 557) (by decide +kernel), List.mem_of_getElem? (i := 666) (by decide +kernel), List.mem_of_getElem? (i := 667) (by decide +kernel)⟩
theorem lw_p24 : lw_okq (⟨"SyllableBookModel", "dropPiece", "(I)V"⟩, 18) := ⟨⟨by decide +kernel, by decide +kernel⟩, List.mem_of_getElem? (i := 557) (by decide +kernel), List.mem_of_getElem? (i := 674) (by decide +kernel), List.mem_of_getElem? (i := 675) (by decide +kernel)⟩
theorem lw_p25 : lw_okq (⟨"SyllableBookModel", "isWord", "(I)Z"⟩, 18) := ⟨⟨by decide +kernel, by decide +kernel⟩, List.mem_of_getElem? (i := 557) (by decide +kernel), List.mem_of_getElem? (i := 686) (by decide +kernel), List.mem_of_getElem? (i := 687) (by decide +kernel)⟩
theorem lw_p26 : lw_okq (⟨"SyllableBookModel", "wordPart", "(II)I"⟩, 18) := ⟨⟨by decide +kernel, by decide +kernel⟩, List.mem_of_getElem? (i := 557) (by decide +kernel), List.mem_of_getElem? (i := 690) (by decide +kernel), List.mem_of_getElem? (i := 691) (by decide +kernel)⟩
theorem lw_p27 : lw_okq (⟨"SyllableBookModel", "growsAt", "()I"⟩, 18) := ⟨⟨by decide +kernel, by decide +kernel⟩, List.mem_of_getElem? (i := 557) (by decide +kernel), List.mem_of_getElem? (i := 702) (by decide +kernel), List.mem_of_getElem? (i := 703) (by decide +kernel)⟩
theorem lw_p28 : lw_okq (⟨"SyllableBookModel", "findNeighbours", "()V"⟩, 18) := ⟨⟨by decide +kernel, by decide +kernel⟩, List.mem_of_getElem? (i := 557) (by decide +kernel), List.mem_of_getElem? (i := 706) (by decide +kernel), List.mem_of_getElem? (i := 707) (by decide +kernel)⟩
theorem lw_p29 : lw_okq (⟨"SyllableBookModel", "findCut", "(I)V"⟩, 18) := ⟨⟨by decide +kernel, by decide +kernel⟩, List.mem_of_getElem? (i := 557) (by decide +kernel), List.mem_of_getElem? (i := 710) (by decide +kernel), List.mem_of_getElem? (i := 711) (by decide +kernel)⟩
theorem lw_p30 : lw_okq (⟨"SyllableBookModel", "longestAt", "(II)I"⟩, 18) := ⟨⟨by decide +kernel, by decide +kernel⟩, List.mem_of_getElem? (i := 557) (by decide +kernel), List.mem_of_getElem? (i := 714) (by decide +kernel), List.mem_of_getElem? (i := 715) (by decide +kernel)⟩
theorem lw_p31 : lw_okq (⟨"SyllableBookModel", "weightIn", "(III)I"⟩, 18) := ⟨⟨by decide +kernel, by decide +kernel⟩, List.mem_of_getElem? (i := 557) (by decide +kernel), List.mem_of_getElem? (i := 718) (by decide +kernel), List.mem_of_getElem? (i := 719) (by decide +kernel)⟩
def lw_privs_2 : List (MethodName × Nat) := [(⟨"SyllableBookModel", "whyNoPiece", "(I)I"⟩, 18), (⟨"SyllableBookModel", "padText", "(I)I"⟩, 18), (⟨"SyllableBookModel", "pieceOf", "(I)I"⟩, 18), (⟨"SyllableBookModel", "textOf", "(I)I"⟩, 18), (⟨"SyllableBookModel", "piecePart", "(II)I"⟩, 18), (⟨"SyllableBookModel", "record", "()V"⟩, 18), (⟨"SyllableBookModel", "addPiece", "(II)I"⟩, 18), (⟨"SyllableBookModel", "isPiece", "(I)Z"⟩, 18), (⟨"SyllableBookModel", "dropPiece", "(I)V"⟩, 18), (⟨"SyllableBookModel", "isWord", "(I)Z"⟩, 18), (⟨"SyllableBookModel", "wordPart", "(II)I"⟩, 18), (⟨"SyllableBookModel", "growsAt", "()I"⟩, 18), (⟨"SyllableBookModel", "findNeighbours", "()V"⟩, 18), (⟨"SyllableBookModel", "findCut", "(I)V"⟩, 18), (⟨"SyllableBookModel", "longestAt", "(II)I"⟩, 18), (⟨"SyllableBookModel", "weightIn", "(III)I"⟩, 18)]
theorem lw_r2 : ∀ q ∈ lw_privs_2, lw_okq q := List.forall_mem_cons.mpr ⟨lw_p16, List.forall_mem_cons.mpr ⟨lw_p17, List.forall_mem_cons.mpr ⟨lw_p18, List.forall_mem_cons.mpr ⟨lw_p19, List.forall_mem_cons.mpr ⟨lw_p20, List.forall_mem_cons.mpr ⟨lw_p21, List.forall_mem_cons.mpr ⟨lw_p22, List.forall_mem_cons.mpr ⟨lw_p23, List.forall_mem_cons.mpr ⟨lw_p24, List.forall_mem_cons.mpr ⟨lw_p25, List.forall_mem_cons.mpr ⟨lw_p26, List.forall_mem_cons.mpr ⟨lw_p27, List.forall_mem_cons.mpr ⟨lw_p28, List.forall_mem_cons.mpr ⟨lw_p29, List.forall_mem_cons.mpr ⟨lw_p30, List.forall_mem_cons.mpr ⟨lw_p31, fun _ h => absurd h List.not_mem_nil⟩⟩⟩⟩⟩⟩⟩⟩⟩⟩⟩⟩⟩⟩⟩⟩
theorem lw_p32 : lw_okq (⟨"SyllableBookModel", "textIn", "(III)I"⟩, 18) := ⟨⟨by decide +kernel, by decide +kernel⟩, List.mem_of_getElem? (i := 557) (by decide +kernel), List.mem_of_getElem? (i := 722) (by decide +kernel), List.mem_of_getElem? (i := 723) (by decide +kernel)⟩
theorem lw_p33 : lw_okq (⟨"SyllableBookModel", "standsSo", "(I)I"⟩, 18) := ⟨⟨by decide +kernel, by decide +kernel⟩, List.mem_of_getElem? (i := 557) (by decide +kernel), List.mem_of_getElem? (i := 726) (by decide +kernel), List.mem_of_getElem? (i := 727) (by decide +kernel)⟩
theorem lw_p34 : lw_okq (⟨"SyllableBookModel", "findBears", "()V"⟩, 18) := ⟨⟨by decide +kernel, by decide +kernel⟩, List.mem_of_getElem? (i := 557) (by decide +kernel), List.mem_of_getElem? (i := 734) (by decide +kernel), List.mem_of_getElem? (i := 735) (by decide +kernel)⟩
theorem lw_p35 : lw_okq (⟨"SyllableBookModel", "findTotals", "(I)V"⟩, 18) := ⟨⟨by decide +kernel, by decide +kernel⟩, List.mem_of_getElem? (i := 557) (by decide +kernel), List.mem_of_getElem? (i := 738) (by decide +kernel), List.mem_of_getElem? (i := 739) (by decide +kernel)⟩
theorem lw_p36 : lw_okq (⟨"SyllableBookModel", "shareIn", "(II)I"⟩, 18) := ⟨⟨by decide +kernel, by decide +kernel⟩, List.mem_of_getElem? (i := 557) (by decide +kernel), List.mem_of_getElem? (i := 742) (by decide +kernel), List.mem_of_getElem? (i := 743) (by decide +kernel)⟩
theorem lw_p37 : lw_okq (⟨"SyllableBookModel", "leastOf", "()I"⟩, 18) := ⟨⟨by decide +kernel, by decide +kernel⟩, List.mem_of_getElem? (i := 557) (by decide +kernel), List.mem_of_getElem? (i := 751) (by decide +kernel), List.mem_of_getElem? (i := 752) (by decide +kernel)⟩
theorem lw_p38 : lw_okq (⟨"SyllableBookModel", "lossOf", "(I)I"⟩, 18) := ⟨⟨by decide +kernel, by decide +kernel⟩, List.mem_of_getElem? (i := 557) (by decide +kernel), List.mem_of_getElem? (i := 755) (by decide +kernel), List.mem_of_getElem? (i := 756) (by decide +kernel)⟩
theorem lw_p39 : lw_okq (⟨"SyllableBookModel", "allCosts", "()I"⟩, 18) := ⟨⟨by decide +kernel, by decide +kernel⟩, List.mem_of_getElem? (i := 557) (by decide +kernel), List.mem_of_getElem? (i := 759) (by decide +kernel), List.mem_of_getElem? (i := 760) (by decide +kernel)⟩
theorem lw_p40 : lw_okq (⟨"SyllableBookModel", "costOf", "(I)I"⟩, 18) := ⟨⟨by decide +kernel, by decide +kernel⟩, List.mem_of_getElem? (i := 557) (by decide +kernel), List.mem_of_getElem? (i := 763) (by decide +kernel), List.mem_of_getElem? (i := 764) (by decide +kernel)⟩
theorem lw_p41 : lw_okq (⟨"SyllableBookModel", "unseenIn", "(I)I"⟩, 18) := ⟨⟨by decide +kernel, by decide +kernel⟩, List.mem_of_getElem? (i := 557) (by decide +kernel), List.mem_of_getElem? (i := 767) (by decide +kernel), List.mem_of_getElem? (i := 768) (by decide +kernel)⟩
theorem lw_p42 : lw_okq (⟨"SyllableBookModel", "partOften", "(I)I"⟩, 18) := ⟨⟨by decide +kernel, by decide +kernel⟩, List.mem_of_getElem? (i := 557) (by decide +kernel), List.mem_of_getElem? (i := 775) (by decide +kernel), List.mem_of_getElem? (i := 776) (by decide +kernel)⟩
theorem lw_p43 : lw_okq (⟨"SyllableBookModel", "cutsOf", "(I)I"⟩, 18) := ⟨⟨by decide +kernel, by decide +kernel⟩, List.mem_of_getElem? (i := 557) (by decide +kernel), List.mem_of_getElem? (i := 784) (by decide +kernel), List.mem_of_getElem? (i := 785) (by decide +kernel)⟩
def lw_privs_3 : List (MethodName × Nat) := [(⟨"SyllableBookModel", "textIn", "(III)I"⟩, 18), (⟨"SyllableBookModel", "standsSo", "(I)I"⟩, 18), (⟨"SyllableBookModel", "findBears", "()V"⟩, 18), (⟨"SyllableBookModel", "findTotals", "(I)V"⟩, 18), (⟨"SyllableBookModel", "shareIn", "(II)I"⟩, 18), (⟨"SyllableBookModel", "leastOf", "()I"⟩, 18), (⟨"SyllableBookModel", "lossOf", "(I)I"⟩, 18), (⟨"SyllableBookModel", "allCosts", "()I"⟩, 18), (⟨"SyllableBookModel", "costOf", "(I)I"⟩, 18), (⟨"SyllableBookModel", "unseenIn", "(I)I"⟩, 18), (⟨"SyllableBookModel", "partOften", "(I)I"⟩, 18), (⟨"SyllableBookModel", "cutsOf", "(I)I"⟩, 18)]
theorem lw_r3 : ∀ q ∈ lw_privs_3, lw_okq q := List.forall_mem_cons.mpr ⟨lw_p32, List.forall_mem_cons.mpr ⟨lw_p33, List.forall_mem_cons.mpr ⟨lw_p34, List.forall_mem_cons.mpr ⟨lw_p35, List.forall_mem_cons.mpr ⟨lw_p36, List.forall_mem_cons.mpr ⟨lw_p37, List.forall_mem_cons.mpr ⟨lw_p38, List.forall_mem_cons.mpr ⟨lw_p39, List.forall_mem_cons.mpr ⟨lw_p40, List.forall_mem_cons.mpr ⟨lw_p41, List.forall_mem_cons.mpr ⟨lw_p42, List.forall_mem_cons.mpr ⟨lw_p43, fun _ h => absurd h List.not_mem_nil⟩⟩⟩⟩⟩⟩⟩⟩⟩⟩⟩⟩
def lw_privs : List (MethodName × Nat) := lw_privs_1 ++ (lw_privs_2 ++ (lw_privs_3))
def lw_tbl : List Cond := k2_sels lw_privs ++ tables_1
theorem lw_privs_ok : ∀ q ∈ lw_privs, lw_okq q := by
  show ∀ q ∈ lw_privs_1 ++ (lw_privs_2 ++ (lw_privs_3)), lw_okq q
  exact List.forall_mem_append.mpr ⟨lw_r1, List.forall_mem_append.mpr ⟨lw_r2, lw_r3⟩⟩
-- ===== end of PART A; then your names; then what follows =====
end
section
/-! ===== BEGIN words of one list among another's, by their places ===== -/
theorem goodIn_r {big : List Cond} (ws : List Cond) (ps : List Nat) (hp : ws = ps.filterMap (fun i => big[i]?)) (h : ws.all goodWord = true) : GoodIn big ws := by
  intro w hw
  have h1 := List.all_eq_true.mp h w hw
  rw [hp] at hw
  obtain ⟨i, -, hi⟩ := List.mem_filterMap.mp hw
  have hm : w ∈ big := by first | exact List.mem_of_getElem? hi | exact List.getElem?_mem hi
  exact ⟨hm, good_of_word h1⟩
theorem goodIn_app {big a b : List Cond} (ha : GoodIn big a) (hb : GoodIn big b) : GoodIn big (a ++ b) := fun w h => (List.mem_append.mp h).elim (ha w) (hb w)
theorem goodIn_ca {big a b : List Cond} {c : Cond} (ha : GoodIn big (c :: a)) (hb : GoodIn big b) : GoodIn big (c :: (a ++ b)) := fun w h => (List.mem_cons.mp h).elim (fun e => ha w (List.mem_cons.mpr (Or.inl e))) (fun h => (List.mem_append.mp h).elim (fun h => ha w (List.mem_cons.mpr (Or.inr h))) (hb w))
theorem goodIn_sub {big ws : List Cond} (hm : ∀ w ∈ ws, w ∈ big) (h : ws.all goodWord = true) : GoodIn big ws := fun w hw => ⟨hm w hw, good_of_word (List.all_eq_true.mp h w hw)⟩
/-! ===== END ===== -/

/-! ===== BEGIN printed: names, fields, word lists, decode rows ===== -/
def RX0 : String := "SyllableBook$AllCuts"
def TX0 : u_T := fun k => match k with
  | 0 => ("SyllableBook$AllCuts", "before", "[J", true)
  | 1 => ("SyllableBook$AllCuts", "behind", "[J", true)
  | _ => ("SyllableBook$AllCuts", "cutsBehind", "[I", true)
def tyX0 : Nat → FieldType := fun k => match k with
  | 0 => .array .long
  | 1 => .array .long
  | _ => .array .int
abbrev wsX00 : List Cond := u_ws RX0 TX0 3
theorem nmX0 : ∀ a, a < 3 → ∀ b, b < 3 → a ≠ b → (TX0 a).2.1 ≠ (TX0 b).2.1 := by decide +kernel
theorem tyX0_ok : ∀ k, k < 3 → parseFieldDescriptor (TX0 k).2.2.1 = some (tyX0 k) := by decide +kernel
abbrev cX0_init : ByteArray := prog_2_method_1_code
def yX0_init : MethodName := ⟨RX0, "<init>", "()V"⟩
abbrev cX0_find : ByteArray := prog_2_method_2_code
def yX0_find : MethodName := ⟨RX0, "find", "(LSyllableBook$Lattice;)V"⟩
abbrev cX0_addBehind : ByteArray := prog_2_method_3_code
def yX0_addBehind : MethodName := ⟨RX0, "addBehind", "(LSyllableBook$Lattice;I)V"⟩
abbrev cX0_total : ByteArray := prog_2_method_4_code
def yX0_total : MethodName := ⟨RX0, "total", "()J"⟩
abbrev cX0_cuts : ByteArray := prog_2_method_5_code
def yX0_cuts : MethodName := ⟨RX0, "cuts", "()I"⟩
abbrev cX0_shareOf : ByteArray := prog_2_method_6_code
def yX0_shareOf : MethodName := ⟨RX0, "shareOf", "(LSyllableBook$Lattice;I)I"⟩
def RX1 : String := "SyllableBook$BestCut"
def TX1 : u_T := fun k => match k with
  | 0 => ("SyllableBook$BestCut", "restProduct", "[J", true)
  | 1 => ("SyllableBook$BestCut", "restParts", "[I", true)
  | 2 => ("SyllableBook$BestCut", "restFirst", "[I", true)
  | 3 => ("SyllableBook$BestCut", "parts", "I", false)
  | 4 => ("SyllableBook$BestCut", "unseen", "I", false)
  | 5 => ("SyllableBook$BestCut", "partPiece", "[I", true)
  | 6 => ("SyllableBook$BestCut", "partPlace", "[I", true)
  | _ => ("SyllableBook$BestCut", "partLetters", "[I", true)
def tyX1 : Nat → FieldType := fun k => match k with
  | 0 => .array .long
  | 1 => .array .int
  | 2 => .array .int
  | 3 => .int
  | 4 => .int
  | 5 => .array .int
  | 6 => .array .int
  | _ => .array .int
abbrev wsX10 : List Cond := u_ws RX1 TX1 8
theorem nmX1 : ∀ a, a < 8 → ∀ b, b < 8 → a ≠ b → (TX1 a).2.1 ≠ (TX1 b).2.1 := by decide +kernel
theorem tyX1_ok : ∀ k, k < 8 → parseFieldDescriptor (TX1 k).2.2.1 = some (tyX1 k) := by decide +kernel
abbrev cX1_init : ByteArray := prog_3_method_1_code
def yX1_init : MethodName := ⟨RX1, "<init>", "()V"⟩
abbrev cX1_find : ByteArray := prog_3_method_2_code
def yX1_find : MethodName := ⟨RX1, "find", "(LSyllableBook$Lattice;I)V"⟩
abbrev cX1_findFirst : ByteArray := prog_3_method_3_code
def yX1_findFirst : MethodName := ⟨RX1, "findFirst", "(LSyllableBook$Lattice;II)V"⟩
abbrev cX1_layOut : ByteArray := prog_3_method_4_code
def yX1_layOut : MethodName := ⟨RX1, "layOut", "(LSyllableBook$Lattice;I)V"⟩
abbrev cX1_greatestProduct : ByteArray := prog_3_method_5_code
def yX1_greatestProduct : MethodName := ⟨RX1, "greatestProduct", "()J"⟩
abbrev cX1_cost : ByteArray := prog_3_method_6_code
def yX1_cost : MethodName := ⟨RX1, "cost", "()I"⟩
def RX2 : String := "SyllableBook$Contents"
def TX2 : u_T := fun k => match k with
  | 0 => ("SyllableBook$Contents", "pieces", "I", false)
  | 1 => ("SyllableBook$Contents", "pieceText", "[I", true)
  | 2 => ("SyllableBook$Contents", "pieceLetters", "[I", true)
  | 3 => ("SyllableBook$Contents", "pieceWeight", "[I", true)
  | 4 => ("SyllableBook$Contents", "words", "I", false)
  | 5 => ("SyllableBook$Contents", "wordLetters", "[I", true)
  | 6 => ("SyllableBook$Contents", "wordCount", "[I", true)
  | _ => ("SyllableBook$Contents", "letters", "[I", true)
def tyX2 : Nat → FieldType := fun k => match k with
  | 0 => .int
  | 1 => .array .int
  | 2 => .array .int
  | 3 => .array .int
  | 4 => .int
  | 5 => .array .int
  | 6 => .array .int
  | _ => .array .int
abbrev wsX20 : List Cond := u_ws RX2 TX2 8
theorem nmX2 : ∀ a, a < 8 → ∀ b, b < 8 → a ≠ b → (TX2 a).2.1 ≠ (TX2 b).2.1 := by decide +kernel
theorem tyX2_ok : ∀ k, k < 8 → parseFieldDescriptor (TX2 k).2.2.1 = some (tyX2 k) := by decide +kernel
abbrev cX2_init : ByteArray := prog_4_method_1_code
def yX2_init : MethodName := ⟨RX2, "<init>", "()V"⟩
abbrev cX2_copyFrom : ByteArray := prog_4_method_2_code
def yX2_copyFrom : MethodName := ⟨RX2, "copyFrom", "(LSyllableBook$Contents;)V"⟩
abbrev cX2_pieceWith : ByteArray := prog_4_method_3_code
def yX2_pieceWith : MethodName := ⟨RX2, "pieceWith", "(I)I"⟩
abbrev cX2_addPiece : ByteArray := prog_4_method_4_code
def yX2_addPiece : MethodName := ⟨RX2, "addPiece", "(III)V"⟩
abbrev cX2_removePiece : ByteArray := prog_4_method_5_code
def yX2_removePiece : MethodName := ⟨RX2, "removePiece", "(I)V"⟩
abbrev cX2_letterAt : ByteArray := prog_4_method_6_code
def yX2_letterAt : MethodName := ⟨RX2, "letterAt", "(II)I"⟩
abbrev cX2_addWord : ByteArray := prog_4_method_7_code
def yX2_addWord : MethodName := ⟨RX2, "addWord", "(LSyllableBook$Pad;I)V"⟩
abbrev cX2_removeWord : ByteArray := prog_4_method_8_code
def yX2_removeWord : MethodName := ⟨RX2, "removeWord", "(I)V"⟩
def RX3 : String := "SyllableBook$History"
def TX3 : u_T := fun k => match k with
  | 0 => ("SyllableBook$History", "size", "I", false)
  | _ => ("SyllableBook$History", "states", "[LSyllableBook$Contents;", true)
def tyX3 : Nat → FieldType := fun k => match k with
  | 0 => .int
  | _ => .array (.object "SyllableBook$Contents")
abbrev wsX30 : List Cond := u_ws RX3 TX3 2
theorem nmX3 : ∀ a, a < 2 → ∀ b, b < 2 → a ≠ b → (TX3 a).2.1 ≠ (TX3 b).2.1 := by decide +kernel
theorem tyX3_ok : ∀ k, k < 2 → parseFieldDescriptor (TX3 k).2.2.1 = some (tyX3 k) := by decide +kernel
abbrev cX3_init : ByteArray := prog_5_method_1_code
def yX3_init : MethodName := ⟨RX3, "<init>", "()V"⟩
abbrev cX3_record : ByteArray := prog_5_method_2_code
def yX3_record : MethodName := ⟨RX3, "record", "(LSyllableBook$Contents;)V"⟩
abbrev cX3_dropOldest : ByteArray := prog_5_method_3_code
def yX3_dropOldest : MethodName := ⟨RX3, "dropOldest", "()V"⟩
abbrev cX3_takeBack : ByteArray := prog_5_method_4_code
def yX3_takeBack : MethodName := ⟨RX3, "takeBack", "(LSyllableBook$Contents;)V"⟩
def RX4 : String := "SyllableBook$Lattice"
def TX4 : u_T := fun k => match k with
  | 0 => ("SyllableBook$Lattice", "length", "I", false)
  | 1 => ("SyllableBook$Lattice", "text", "[I", true)
  | 2 => ("SyllableBook$Lattice", "piece", "[I", true)
  | _ => ("SyllableBook$Lattice", "weightOf", "[I", true)
def tyX4 : Nat → FieldType := fun k => match k with
  | 0 => .int
  | 1 => .array .int
  | 2 => .array .int
  | _ => .array .int
abbrev wsX40 : List Cond := u_ws RX4 TX4 4
theorem nmX4 : ∀ a, a < 4 → ∀ b, b < 4 → a ≠ b → (TX4 a).2.1 ≠ (TX4 b).2.1 := by decide +kernel
theorem tyX4_ok : ∀ k, k < 4 → parseFieldDescriptor (TX4 k).2.2.1 = some (tyX4 k) := by decide +kernel
abbrev cX4_init : ByteArray := prog_6_method_1_code
def yX4_init : MethodName := ⟨RX4, "<init>", "()V"⟩
abbrev cX4_read : ByteArray := prog_6_method_2_code
def yX4_read : MethodName := ⟨RX4, "read", "(LSyllableBook$Contents;I)V"⟩
abbrev cX4_mostLetters : ByteArray := prog_6_method_3_code
def yX4_mostLetters : MethodName := ⟨RX4, "mostLetters", "(I)I"⟩
abbrev cX4_index : ByteArray := prog_6_method_4_code
def yX4_index : MethodName := ⟨RX4, "index", "(II)I"⟩
abbrev cX4_textAt : ByteArray := prog_6_method_5_code
def yX4_textAt : MethodName := ⟨RX4, "textAt", "(II)I"⟩
abbrev cX4_pieceAt : ByteArray := prog_6_method_6_code
def yX4_pieceAt : MethodName := ⟨RX4, "pieceAt", "(II)I"⟩
abbrev cX4_weightAt : ByteArray := prog_6_method_7_code
def yX4_weightAt : MethodName := ⟨RX4, "weightAt", "(III)I"⟩
def RX5 : String := "SyllableBook$Neighbours"
def TX5 : u_T := fun k => match k with
  | 0 => ("SyllableBook$Neighbours", "size", "I", false)
  | 1 => ("SyllableBook$Neighbours", "text", "[I", true)
  | 2 => ("SyllableBook$Neighbours", "letters", "[I", true)
  | 3 => ("SyllableBook$Neighbours", "weight", "[I", true)
  | _ => ("SyllableBook$Neighbours", "times", "[I", true)
def tyX5 : Nat → FieldType := fun k => match k with
  | 0 => .int
  | 1 => .array .int
  | 2 => .array .int
  | 3 => .array .int
  | _ => .array .int
abbrev wsX50 : List Cond := u_ws RX5 TX5 5
theorem nmX5 : ∀ a, a < 5 → ∀ b, b < 5 → a ≠ b → (TX5 a).2.1 ≠ (TX5 b).2.1 := by decide +kernel
theorem tyX5_ok : ∀ k, k < 5 → parseFieldDescriptor (TX5 k).2.2.1 = some (tyX5 k) := by decide +kernel
abbrev cX5_init : ByteArray := prog_7_method_1_code
def yX5_init : MethodName := ⟨RX5, "<init>", "()V"⟩
abbrev cX5_add : ByteArray := prog_7_method_2_code
def yX5_add : MethodName := ⟨RX5, "add", "(IIII)V"⟩
abbrev cX5_mostFrequent : ByteArray := prog_7_method_3_code
def yX5_mostFrequent : MethodName := ⟨RX5, "mostFrequent", "()I"⟩
def RX6 : String := "SyllableBook$Pad"
def TX6 : u_T := fun k => match k with
  | 0 => ("SyllableBook$Pad", "length", "I", false)
  | _ => ("SyllableBook$Pad", "codes", "[I", true)
def tyX6 : Nat → FieldType := fun k => match k with
  | 0 => .int
  | _ => .array .int
abbrev wsX60 : List Cond := u_ws RX6 TX6 2
theorem nmX6 : ∀ a, a < 2 → ∀ b, b < 2 → a ≠ b → (TX6 a).2.1 ≠ (TX6 b).2.1 := by decide +kernel
theorem tyX6_ok : ∀ k, k < 2 → parseFieldDescriptor (TX6 k).2.2.1 = some (tyX6 k) := by decide +kernel
abbrev cX6_init : ByteArray := prog_8_method_1_code
def yX6_init : MethodName := ⟨RX6, "<init>", "()V"⟩
abbrev cX6_append : ByteArray := prog_8_method_2_code
def yX6_append : MethodName := ⟨RX6, "append", "(I)V"⟩
abbrev cX6_letterAt : ByteArray := prog_8_method_3_code
def yX6_letterAt : MethodName := ⟨RX6, "letterAt", "(I)I"⟩
abbrev cX6_firstNoLetter : ByteArray := prog_8_method_4_code
def yX6_firstNoLetter : MethodName := ⟨RX6, "firstNoLetter", "()I"⟩
abbrev cX6_holdsLetters : ByteArray := prog_8_method_5_code
def yX6_holdsLetters : MethodName := ⟨RX6, "holdsLetters", "(I)Z"⟩
abbrev cX6_text : ByteArray := prog_8_method_6_code
def yX6_text : MethodName := ⟨RX6, "text", "()I"⟩
def RX7 : String := "SyllableBook"
def TX7 : u_T := fun k => match k with
  | 0 => ("SyllableBook", "contents", "LSyllableBook$Contents;", true)
  | 1 => ("SyllableBook", "trial", "LSyllableBook$Contents;", true)
  | 2 => ("SyllableBook", "slots", "[LSyllableBook$Contents;", true)
  | 3 => ("SyllableBook", "saved", "[Z", true)
  | 4 => ("SyllableBook", "history", "LSyllableBook$History;", true)
  | 5 => ("SyllableBook", "pad", "LSyllableBook$Pad;", true)
  | 6 => ("SyllableBook", "lattice", "LSyllableBook$Lattice;", true)
  | 7 => ("SyllableBook", "best", "LSyllableBook$BestCut;", true)
  | 8 => ("SyllableBook", "all", "LSyllableBook$AllCuts;", true)
  | 9 => ("SyllableBook", "neighbours", "LSyllableBook$Neighbours;", true)
  | 10 => ("SyllableBook", "borne", "[I", true)
  | _ => ("SyllableBook", "costWithout", "[I", true)
def tyX7 : Nat → FieldType := fun k => match k with
  | 0 => .object "SyllableBook$Contents"
  | 1 => .object "SyllableBook$Contents"
  | 2 => .array (.object "SyllableBook$Contents")
  | 3 => .array .boolean
  | 4 => .object "SyllableBook$History"
  | 5 => .object "SyllableBook$Pad"
  | 6 => .object "SyllableBook$Lattice"
  | 7 => .object "SyllableBook$BestCut"
  | 8 => .object "SyllableBook$AllCuts"
  | 9 => .object "SyllableBook$Neighbours"
  | 10 => .array .int
  | _ => .array .int
abbrev wsX70 : List Cond := u_ws RX7 TX7 12
theorem nmX7 : ∀ a, a < 12 → ∀ b, b < 12 → a ≠ b → (TX7 a).2.1 ≠ (TX7 b).2.1 := by decide +kernel
theorem tyX7_ok : ∀ k, k < 12 → parseFieldDescriptor (TX7 k).2.2.1 = some (tyX7 k) := by decide +kernel
abbrev cX7_init : ByteArray := prog_1_method_1_code
def yX7_init : MethodName := ⟨RX7, "<init>", "()V"⟩
abbrev cX7_piece : ByteArray := prog_1_method_2_code
def yX7_piece : MethodName := ⟨RX7, "piece", "(I)I"⟩
abbrev cX7_weigh : ByteArray := prog_1_method_3_code
def yX7_weigh : MethodName := ⟨RX7, "weigh", "(II)I"⟩
abbrev cX7_drop : ByteArray := prog_1_method_4_code
def yX7_drop : MethodName := ⟨RX7, "drop", "(I)I"⟩
abbrev cX7_word : ByteArray := prog_1_method_5_code
def yX7_word : MethodName := ⟨RX7, "word", "(I)I"⟩
abbrev cX7_recount : ByteArray := prog_1_method_6_code
def yX7_recount : MethodName := ⟨RX7, "recount", "(II)I"⟩
abbrev cX7_forget : ByteArray := prog_1_method_7_code
def yX7_forget : MethodName := ⟨RX7, "forget", "(I)I"⟩
abbrev cX7_grow : ByteArray := prog_1_method_8_code
def yX7_grow : MethodName := ⟨RX7, "grow", "()I"⟩
abbrev cX7_tune : ByteArray := prog_1_method_9_code
def yX7_tune : MethodName := ⟨RX7, "tune", "()I"⟩
abbrev cX7_shrink : ByteArray := prog_1_method_10_code
def yX7_shrink : MethodName := ⟨RX7, "shrink", "(I)I"⟩
abbrev cX7_ofPiece : ByteArray := prog_1_method_11_code
def yX7_ofPiece : MethodName := ⟨RX7, "ofPiece", "(II)I"⟩
abbrev cX7_ofWord : ByteArray := prog_1_method_12_code
def yX7_ofWord : MethodName := ⟨RX7, "ofWord", "(II)I"⟩
abbrev cX7_letter : ByteArray := prog_1_method_13_code
def yX7_letter : MethodName := ⟨RX7, "letter", "(II)I"⟩
abbrev cX7_product : ByteArray := prog_1_method_14_code
def yX7_product : MethodName := ⟨RX7, "product", "(II)J"⟩
abbrev cX7_part : ByteArray := prog_1_method_15_code
def yX7_part : MethodName := ⟨RX7, "part", "(III)I"⟩
abbrev cX7_share : ByteArray := prog_1_method_16_code
def yX7_share : MethodName := ⟨RX7, "share", "(II)I"⟩
abbrev cX7_count : ByteArray := prog_1_method_17_code
def yX7_count : MethodName := ⟨RX7, "count", "(I)I"⟩
abbrev cX7_costWith : ByteArray := prog_1_method_18_code
def yX7_costWith : MethodName := ⟨RX7, "costWith", "(I)I"⟩
abbrev cX7_growing : ByteArray := prog_1_method_19_code
def yX7_growing : MethodName := ⟨RX7, "growing", "(I)I"⟩
abbrev cX7_least : ByteArray := prog_1_method_20_code
def yX7_least : MethodName := ⟨RX7, "least", "()I"⟩
abbrev cX7_put : ByteArray := prog_1_method_21_code
def yX7_put : MethodName := ⟨RX7, "put", "(J)I"⟩
abbrev cX7_wipe : ByteArray := prog_1_method_22_code
def yX7_wipe : MethodName := ⟨RX7, "wipe", "()I"⟩
abbrev cX7_fault : ByteArray := prog_1_method_23_code
def yX7_fault : MethodName := ⟨RX7, "fault", "()I"⟩
abbrev cX7_undo : ByteArray := prog_1_method_24_code
def yX7_undo : MethodName := ⟨RX7, "undo", "()I"⟩
abbrev cX7_save : ByteArray := prog_1_method_25_code
def yX7_save : MethodName := ⟨RX7, "save", "(I)I"⟩
abbrev cX7_restore : ByteArray := prog_1_method_26_code
def yX7_restore : MethodName := ⟨RX7, "restore", "(I)I"⟩
abbrev cX7_isPiece : ByteArray := prog_1_method_27_code
def yX7_isPiece : MethodName := ⟨RX7, "isPiece", "(I)Z"⟩
abbrev cX7_isWord : ByteArray := prog_1_method_28_code
def yX7_isWord : MethodName := ⟨RX7, "isWord", "(I)Z"⟩
abbrev cX7_newPieceError : ByteArray := prog_1_method_29_code
def yX7_newPieceError : MethodName := ⟨RX7, "newPieceError", "(I)I"⟩
abbrev cX7_charactersIn : ByteArray := prog_1_method_30_code
def yX7_charactersIn : MethodName := ⟨RX7, "charactersIn", "(J)I"⟩
abbrev cX7_letterOfText : ByteArray := prog_1_method_31_code
def yX7_letterOfText : MethodName := ⟨RX7, "letterOfText", "(III)I"⟩
abbrev cX7_cutBest : ByteArray := prog_1_method_32_code
def yX7_cutBest : MethodName := ⟨RX7, "cutBest", "(LSyllableBook$Contents;I)V"⟩
abbrev cX7_costOfAll : ByteArray := prog_1_method_33_code
def yX7_costOfAll : MethodName := ⟨RX7, "costOfAll", "(LSyllableBook$Contents;)I"⟩
abbrev cX7_lettersOfAll : ByteArray := prog_1_method_34_code
def yX7_lettersOfAll : MethodName := ⟨RX7, "lettersOfAll", "()I"⟩
abbrev cX7_partsOfAll : ByteArray := prog_1_method_35_code
def yX7_partsOfAll : MethodName := ⟨RX7, "partsOfAll", "()I"⟩
abbrev cX7_timesInBestCuts : ByteArray := prog_1_method_36_code
def yX7_timesInBestCuts : MethodName := ⟨RX7, "timesInBestCuts", "(I)I"⟩
abbrev cX7_loseEach : ByteArray := prog_1_method_37_code
def yX7_loseEach : MethodName := ⟨RX7, "loseEach", "()V"⟩
abbrev cX7_bearAll : ByteArray := prog_1_method_38_code
def yX7_bearAll : MethodName := ⟨RX7, "bearAll", "()V"⟩
abbrev cX7_findLeast : ByteArray := prog_1_method_39_code
def yX7_findLeast : MethodName := ⟨RX7, "findLeast", "()I"⟩
abbrev cX7_findGrowing : ByteArray := prog_1_method_40_code
def yX7_findGrowing : MethodName := ⟨RX7, "findGrowing", "()I"⟩
abbrev cX7_partWeight : ByteArray := prog_1_method_41_code
def yX7_partWeight : MethodName := ⟨RX7, "partWeight", "(I)I"⟩
def RX8 : String := "SyllableBookModel"
def TX8 : u_T := fun k => match k with
  | 0 => ("SyllableBookModel", "state", "[I", true)
  | 1 => ("SyllableBookModel", "kept", "[I", true)
  | 2 => ("SyllableBookModel", "history", "[I", true)
  | 3 => ("SyllableBookModel", "recorded", "I", false)
  | 4 => ("SyllableBookModel", "slots", "[I", true)
  | 5 => ("SyllableBookModel", "isSaved", "[I", true)
  | 6 => ("SyllableBookModel", "pad", "[I", true)
  | 7 => ("SyllableBookModel", "padLength", "I", false)
  | 8 => ("SyllableBookModel", "products", "[J", true)
  | 9 => ("SyllableBookModel", "parts", "[I", true)
  | 10 => ("SyllableBookModel", "lengths", "[I", true)
  | 11 => ("SyllableBookModel", "ahead", "[J", true)
  | 12 => ("SyllableBookModel", "behind", "[J", true)
  | 13 => ("SyllableBookModel", "texts", "[I", true)
  | 14 => ("SyllableBookModel", "counts", "[I", true)
  | 15 => ("SyllableBookModel", "weights", "[I", true)
  | 16 => ("SyllableBookModel", "neighbours", "I", false)
  | _ => ("SyllableBookModel", "bears", "[I", true)
def tyX8 : Nat → FieldType := fun k => match k with
  | 0 => .array .int
  | 1 => .array .int
  | 2 => .array .int
  | 3 => .int
  | 4 => .array .int
  | 5 => .array .int
  | 6 => .array .int
  | 7 => .int
  | 8 => .array .long
  | 9 => .array .int
  | 10 => .array .int
  | 11 => .array .long
  | 12 => .array .long
  | 13 => .array .int
  | 14 => .array .int
  | 15 => .array .int
  | 16 => .int
  | _ => .array .int
abbrev wsX80 : List Cond := u_ws RX8 TX8 18
theorem nmX8 : ∀ a, a < 18 → ∀ b, b < 18 → a ≠ b → (TX8 a).2.1 ≠ (TX8 b).2.1 := by decide +kernel
theorem tyX8_ok : ∀ k, k < 18 → parseFieldDescriptor (TX8 k).2.2.1 = some (tyX8 k) := by decide +kernel
abbrev cX8_init : ByteArray := prog_10_method_1_code
def yX8_init : MethodName := ⟨RX8, "<init>", "()V"⟩
abbrev cX8_copy : ByteArray := prog_10_method_3_code
def yX8_copy : MethodName := ⟨RX8, "copy", "([II[II)V"⟩
abbrev cX8_within : ByteArray := prog_10_method_4_code
def yX8_within : MethodName := ⟨RX8, "within", "(III)Z"⟩
abbrev cX8_record : ByteArray := prog_10_method_5_code
def yX8_record : MethodName := ⟨RX8, "record", "()V"⟩
abbrev cX8_isPiece : ByteArray := prog_10_method_6_code
def yX8_isPiece : MethodName := ⟨RX8, "isPiece", "(I)Z"⟩
abbrev cX8_isWord : ByteArray := prog_10_method_7_code
def yX8_isWord : MethodName := ⟨RX8, "isWord", "(I)Z"⟩
abbrev cX8_piecePart : ByteArray := prog_10_method_8_code
def yX8_piecePart : MethodName := ⟨RX8, "piecePart", "(II)I"⟩
abbrev cX8_wordPart : ByteArray := prog_10_method_9_code
def yX8_wordPart : MethodName := ⟨RX8, "wordPart", "(II)I"⟩
abbrev cX8_textOf : ByteArray := prog_10_method_10_code
def yX8_textOf : MethodName := ⟨RX8, "textOf", "(I)I"⟩
abbrev cX8_textIn : ByteArray := prog_10_method_11_code
def yX8_textIn : MethodName := ⟨RX8, "textIn", "(III)I"⟩
abbrev cX8_lengthOf : ByteArray := prog_10_method_12_code
def yX8_lengthOf : MethodName := ⟨RX8, "lengthOf", "(I)I"⟩
abbrev cX8_letterOf : ByteArray := prog_10_method_13_code
def yX8_letterOf : MethodName := ⟨RX8, "letterOf", "(II)I"⟩
abbrev cX8_pieceOf : ByteArray := prog_10_method_14_code
def yX8_pieceOf : MethodName := ⟨RX8, "pieceOf", "(I)I"⟩
abbrev cX8_weightIn : ByteArray := prog_10_method_15_code
def yX8_weightIn : MethodName := ⟨RX8, "weightIn", "(III)I"⟩
abbrev cX8_longestAt : ByteArray := prog_10_method_16_code
def yX8_longestAt : MethodName := ⟨RX8, "longestAt", "(II)I"⟩
abbrev cX8_findCut : ByteArray := prog_10_method_17_code
def yX8_findCut : MethodName := ⟨RX8, "findCut", "(I)V"⟩
abbrev cX8_unseenIn : ByteArray := prog_10_method_18_code
def yX8_unseenIn : MethodName := ⟨RX8, "unseenIn", "(I)I"⟩
abbrev cX8_costOf : ByteArray := prog_10_method_19_code
def yX8_costOf : MethodName := ⟨RX8, "costOf", "(I)I"⟩
abbrev cX8_allCosts : ByteArray := prog_10_method_20_code
def yX8_allCosts : MethodName := ⟨RX8, "allCosts", "()I"⟩
abbrev cX8_findTotals : ByteArray := prog_10_method_21_code
def yX8_findTotals : MethodName := ⟨RX8, "findTotals", "(I)V"⟩
abbrev cX8_shareIn : ByteArray := prog_10_method_22_code
def yX8_shareIn : MethodName := ⟨RX8, "shareIn", "(II)I"⟩
abbrev cX8_cutsOf : ByteArray := prog_10_method_23_code
def yX8_cutsOf : MethodName := ⟨RX8, "cutsOf", "(I)I"⟩
abbrev cX8_findBears : ByteArray := prog_10_method_24_code
def yX8_findBears : MethodName := ⟨RX8, "findBears", "()V"⟩
abbrev cX8_dropPiece : ByteArray := prog_10_method_25_code
def yX8_dropPiece : MethodName := ⟨RX8, "dropPiece", "(I)V"⟩
abbrev cX8_lossOf : ByteArray := prog_10_method_26_code
def yX8_lossOf : MethodName := ⟨RX8, "lossOf", "(I)I"⟩
abbrev cX8_leastOf : ByteArray := prog_10_method_27_code
def yX8_leastOf : MethodName := ⟨RX8, "leastOf", "()I"⟩
abbrev cX8_addPiece : ByteArray := prog_10_method_28_code
def yX8_addPiece : MethodName := ⟨RX8, "addPiece", "(II)I"⟩
abbrev cX8_findNeighbours : ByteArray := prog_10_method_29_code
def yX8_findNeighbours : MethodName := ⟨RX8, "findNeighbours", "()V"⟩
abbrev cX8_standsSo : ByteArray := prog_10_method_30_code
def yX8_standsSo : MethodName := ⟨RX8, "standsSo", "(I)I"⟩
abbrev cX8_growsAt : ByteArray := prog_10_method_31_code
def yX8_growsAt : MethodName := ⟨RX8, "growsAt", "()I"⟩
abbrev cX8_padText : ByteArray := prog_10_method_32_code
def yX8_padText : MethodName := ⟨RX8, "padText", "(I)I"⟩
abbrev cX8_whyNoPiece : ByteArray := prog_10_method_33_code
def yX8_whyNoPiece : MethodName := ⟨RX8, "whyNoPiece", "(I)I"⟩
abbrev cX8_piece : ByteArray := prog_10_method_34_code
def yX8_piece : MethodName := ⟨RX8, "piece", "(I)I"⟩
abbrev cX8_weigh : ByteArray := prog_10_method_35_code
def yX8_weigh : MethodName := ⟨RX8, "weigh", "(II)I"⟩
abbrev cX8_drop : ByteArray := prog_10_method_36_code
def yX8_drop : MethodName := ⟨RX8, "drop", "(I)I"⟩
abbrev cX8_word : ByteArray := prog_10_method_37_code
def yX8_word : MethodName := ⟨RX8, "word", "(I)I"⟩
abbrev cX8_recount : ByteArray := prog_10_method_38_code
def yX8_recount : MethodName := ⟨RX8, "recount", "(II)I"⟩
abbrev cX8_forget : ByteArray := prog_10_method_39_code
def yX8_forget : MethodName := ⟨RX8, "forget", "(I)I"⟩
abbrev cX8_grow : ByteArray := prog_10_method_40_code
def yX8_grow : MethodName := ⟨RX8, "grow", "()I"⟩
abbrev cX8_tune : ByteArray := prog_10_method_41_code
def yX8_tune : MethodName := ⟨RX8, "tune", "()I"⟩
abbrev cX8_shrink : ByteArray := prog_10_method_42_code
def yX8_shrink : MethodName := ⟨RX8, "shrink", "(I)I"⟩
abbrev cX8_partOften : ByteArray := prog_10_method_43_code
def yX8_partOften : MethodName := ⟨RX8, "partOften", "(I)I"⟩
abbrev cX8_ofPiece : ByteArray := prog_10_method_44_code
def yX8_ofPiece : MethodName := ⟨RX8, "ofPiece", "(II)I"⟩
abbrev cX8_ofWord : ByteArray := prog_10_method_45_code
def yX8_ofWord : MethodName := ⟨RX8, "ofWord", "(II)I"⟩
abbrev cX8_letter : ByteArray := prog_10_method_46_code
def yX8_letter : MethodName := ⟨RX8, "letter", "(II)I"⟩
abbrev cX8_product : ByteArray := prog_10_method_47_code
def yX8_product : MethodName := ⟨RX8, "product", "(II)J"⟩
abbrev cX8_part : ByteArray := prog_10_method_48_code
def yX8_part : MethodName := ⟨RX8, "part", "(III)I"⟩
abbrev cX8_share : ByteArray := prog_10_method_49_code
def yX8_share : MethodName := ⟨RX8, "share", "(II)I"⟩
abbrev cX8_count : ByteArray := prog_10_method_50_code
def yX8_count : MethodName := ⟨RX8, "count", "(I)I"⟩
abbrev cX8_costWith : ByteArray := prog_10_method_51_code
def yX8_costWith : MethodName := ⟨RX8, "costWith", "(I)I"⟩
abbrev cX8_growing : ByteArray := prog_10_method_52_code
def yX8_growing : MethodName := ⟨RX8, "growing", "(I)I"⟩
abbrev cX8_least : ByteArray := prog_10_method_53_code
def yX8_least : MethodName := ⟨RX8, "least", "()I"⟩
abbrev cX8_put : ByteArray := prog_10_method_54_code
def yX8_put : MethodName := ⟨RX8, "put", "(J)I"⟩
abbrev cX8_wipe : ByteArray := prog_10_method_55_code
def yX8_wipe : MethodName := ⟨RX8, "wipe", "()I"⟩
abbrev cX8_fault : ByteArray := prog_10_method_56_code
def yX8_fault : MethodName := ⟨RX8, "fault", "()I"⟩
abbrev cX8_undo : ByteArray := prog_10_method_57_code
def yX8_undo : MethodName := ⟨RX8, "undo", "()I"⟩
abbrev cX8_save : ByteArray := prog_10_method_58_code
def yX8_save : MethodName := ⟨RX8, "save", "(I)I"⟩
abbrev cX8_restore : ByteArray := prog_10_method_59_code
def yX8_restore : MethodName := ⟨RX8, "restore", "(I)I"⟩
def RJ9 : String := "java/lang/Math"
def TJ9 : u_T := fun k => match k with
  | _ => ("", "", "", false)
def tyJ9 : Nat → FieldType := fun k => match k with
  | _ => .int
abbrev wsJ90 : List Cond := u_ws RJ9 TJ9 0
theorem nmJ9 : ∀ a, a < 0 → ∀ b, b < 0 → a ≠ b → (TJ9 a).2.1 ≠ (TJ9 b).2.1 := by decide +kernel
theorem tyJ9_ok : ∀ k, k < 0 → parseFieldDescriptor (TJ9 k).2.2.1 = some (tyJ9 k) := by decide +kernel
abbrev cJ9_max_7cf53 : ByteArray := prog_11_method_65_code
def yJ9_max_7cf53 : MethodName := ⟨RJ9, "max", "(II)I"⟩
abbrev cJ9_min_7cf53 : ByteArray := prog_11_method_69_code
def yJ9_min_7cf53 : MethodName := ⟨RJ9, "min", "(II)I"⟩
def RJ10 : String := "java/lang/System"
def TJ10 : u_T := fun k => match k with
  | _ => ("", "", "", false)
def tyJ10 : Nat → FieldType := fun k => match k with
  | _ => .int
abbrev wsJ100 : List Cond := u_ws RJ10 TJ10 0
theorem nmJ10 : ∀ a, a < 0 → ∀ b, b < 0 → a ≠ b → (TJ10 a).2.1 ≠ (TJ10 b).2.1 := by decide +kernel
theorem tyJ10_ok : ∀ k, k < 0 → parseFieldDescriptor (TJ10 k).2.2.1 = some (tyJ10 k) := by decide +kernel
def RJ7 : String := "java/util/Arrays"
def TJ7 : u_T := fun k => match k with
  | _ => ("", "", "", false)
def tyJ7 : Nat → FieldType := fun k => match k with
  | _ => .int
abbrev wsJ70 : List Cond := u_ws RJ7 TJ7 0
theorem nmJ7 : ∀ a, a < 0 → ∀ b, b < 0 → a ≠ b → (TJ7 a).2.1 ≠ (TJ7 b).2.1 := by decide +kernel
theorem tyJ7_ok : ∀ k, k < 0 → parseFieldDescriptor (TJ7 k).2.2.1 = some (tyJ7 k) := by decide +kernel
abbrev cJ7_fill_d0a16 : ByteArray := prog_13_method_101_code
def yJ7_fill_d0a16 : MethodName := ⟨RJ7, "fill", "([JJ)V"⟩
abbrev cJ7_fill_53178 : ByteArray := prog_13_method_103_code
def yJ7_fill_53178 : MethodName := ⟨RJ7, "fill", "([II)V"⟩
def RL : String := "SyllableBookLaw"
def wsX0_init : List Cond := .code yX0_init cX0_init 1 none :: ([.methodLink RX0 3 objectInit, .instanceMethod objectInit, .code objectInit ⟨#[0xb1]⟩ 1 none, .arrayClass .long, .fieldLink RX0 9 "SyllableBook$AllCuts" "before" "[J", .fieldLink RX0 15 "SyllableBook$AllCuts" "behind" "[J", .arrayClass .int, .fieldLink RX0 18 "SyllableBook$AllCuts" "cutsBehind" "[I"] ++ wsX00)
def wsJ7_fill_d0a16 : List Cond := .code yJ7_fill_d0a16 cJ7_fill_d0a16 5 none :: ([])
def wsX4_mostLetters : List Cond := .code yX4_mostLetters cX4_mostLetters 2 (some .int) :: ([.fieldLink RX4 26 "SyllableBook$Lattice" "length" "I", .methodLink RX4 53 Lib.Math.min.name, .static Lib.Math.min.name, .initialized "java/lang/Math", .code Lib.Math.min.name Lib.Math.min.code 2 (some .int)] ++ wsX40)
def wsX4_index : List Cond := .code yX4_index cX4_index 2 (some .int) :: ([])
def wsX4_pieceAt : List Cond := .code yX4_pieceAt cX4_pieceAt 3 (some .int) :: ([.fieldLink RX4 15 "SyllableBook$Lattice" "piece" "[I", .methodLink RX4 47 yX4_index, .static yX4_index, .initialized RX4, .code yX4_index cX4_index 2 (some .int)] ++ wsX40)
def wsX4_weightAt : List Cond := .code yX4_weightAt cX4_weightAt 5 (some .int) :: ([.fieldLink RX4 18 "SyllableBook$Lattice" "weightOf" "[I", .methodLink RX4 58 yX4_pieceAt, .instanceMethod yX4_pieceAt, .selects RX4 yX4_pieceAt yX4_pieceAt, .initialized RX4, .code yX4_pieceAt cX4_pieceAt 3 (some .int), .fieldLink RX4 15 "SyllableBook$Lattice" "piece" "[I", .methodLink RX4 47 yX4_index, .static yX4_index, .code yX4_index cX4_index 2 (some .int)] ++ wsX40)
def wsX0_addBehind_r1 : List Cond := [Cond.fieldLink RX0 15 "SyllableBook$AllCuts" "behind" "[J", Cond.fieldLink RX0 18 "SyllableBook$AllCuts" "cutsBehind" "[I", Cond.methodLink RX0 34 yX4_mostLetters, Cond.instanceMethod yX4_mostLetters, Cond.selects RX4 yX4_mostLetters yX4_mostLetters, Cond.initialized RX4, Cond.code yX4_mostLetters cX4_mostLetters 2 (some .int), Cond.fieldLink RX4 26 "SyllableBook$Lattice" "length" "I", Cond.methodLink RX4 53 Lib.Math.min.name, Cond.static Lib.Math.min.name, Cond.initialized "java/lang/Math", Cond.code Lib.Math.min.name Lib.Math.min.code 2 (some .int), Cond.methodLink RX0 38 yX4_weightAt, Cond.instanceMethod yX4_weightAt, Cond.selects RX4 yX4_weightAt yX4_weightAt, Cond.code yX4_weightAt cX4_weightAt 5 (some .int), Cond.fieldLink RX4 18 "SyllableBook$Lattice" "weightOf" "[I", Cond.methodLink RX4 58 yX4_pieceAt, Cond.instanceMethod yX4_pieceAt, Cond.selects RX4 yX4_pieceAt yX4_pieceAt, Cond.code yX4_pieceAt cX4_pieceAt 3 (some .int), Cond.fieldLink RX4 15 "SyllableBook$Lattice" "piece" "[I", Cond.methodLink RX4 47 yX4_index, Cond.static yX4_index]
def wsX0_addBehind_r2 : List Cond := [Cond.code yX4_index cX4_index 2 (some .int)]
def wsX0_addBehind : List Cond := .code yX0_addBehind cX0_addBehind 6 none :: ((wsX0_addBehind_r1 ++ wsX0_addBehind_r2) ++ wsX00 ++ wsX40)
def wsX0_find_r1 : List Cond := [Cond.fieldLink RX0 9 "SyllableBook$AllCuts" "before" "[J", Cond.fieldLink RX0 28 "SyllableBook$Lattice" "length" "I", Cond.fieldLink RX0 15 "SyllableBook$AllCuts" "behind" "[J", Cond.fieldLink RX0 18 "SyllableBook$AllCuts" "cutsBehind" "[I", Cond.methodLink RX0 22 yJ7_fill_d0a16, Cond.static yJ7_fill_d0a16, Cond.initialized RJ7, Cond.code yJ7_fill_d0a16 cJ7_fill_d0a16 5 none, Cond.methodLink RX0 34 yX4_mostLetters, Cond.instanceMethod yX4_mostLetters, Cond.selects RX4 yX4_mostLetters yX4_mostLetters, Cond.initialized RX4, Cond.code yX4_mostLetters cX4_mostLetters 2 (some .int), Cond.fieldLink RX4 26 "SyllableBook$Lattice" "length" "I", Cond.methodLink RX4 53 Lib.Math.min.name, Cond.static Lib.Math.min.name, Cond.initialized "java/lang/Math", Cond.code Lib.Math.min.name Lib.Math.min.code 2 (some .int), Cond.methodLink RX0 38 yX4_weightAt, Cond.instanceMethod yX4_weightAt, Cond.selects RX4 yX4_weightAt yX4_weightAt, Cond.code yX4_weightAt cX4_weightAt 5 (some .int), Cond.fieldLink RX4 18 "SyllableBook$Lattice" "weightOf" "[I", Cond.methodLink RX4 58 yX4_pieceAt]
def wsX0_find_r2 : List Cond := [Cond.instanceMethod yX4_pieceAt, Cond.selects RX4 yX4_pieceAt yX4_pieceAt, Cond.code yX4_pieceAt cX4_pieceAt 3 (some .int), Cond.fieldLink RX4 15 "SyllableBook$Lattice" "piece" "[I", Cond.methodLink RX4 47 yX4_index, Cond.static yX4_index, Cond.code yX4_index cX4_index 2 (some .int), Cond.methodLink RX0 42 yX0_addBehind, Cond.instanceMethod yX0_addBehind, Cond.selects RX0 yX0_addBehind yX0_addBehind, Cond.initialized RX0, Cond.code yX0_addBehind cX0_addBehind 6 none]
def wsX0_find : List Cond := .code yX0_find cX0_find 5 none :: ((wsX0_find_r1 ++ wsX0_find_r2) ++ wsX00 ++ wsX40)
def wsX0_total : List Cond := .code yX0_total cX0_total 1 (some .long) :: ([.fieldLink RX0 15 "SyllableBook$AllCuts" "behind" "[J"] ++ wsX00)
def wsX0_cuts : List Cond := .code yX0_cuts cX0_cuts 1 (some .int) :: ([.fieldLink RX0 18 "SyllableBook$AllCuts" "cutsBehind" "[I"] ++ wsX00)
def wsX0_shareOf_r1 : List Cond := [Cond.fieldLink RX0 28 "SyllableBook$Lattice" "length" "I", Cond.fieldLink RX0 9 "SyllableBook$AllCuts" "before" "[J", Cond.fieldLink RX0 15 "SyllableBook$AllCuts" "behind" "[J", Cond.constantLong RX0 54 (1000), Cond.methodLink RX0 34 yX4_mostLetters, Cond.instanceMethod yX4_mostLetters, Cond.selects RX4 yX4_mostLetters yX4_mostLetters, Cond.initialized RX4, Cond.code yX4_mostLetters cX4_mostLetters 2 (some .int), Cond.fieldLink RX4 26 "SyllableBook$Lattice" "length" "I", Cond.methodLink RX4 53 Lib.Math.min.name, Cond.static Lib.Math.min.name, Cond.initialized "java/lang/Math", Cond.code Lib.Math.min.name Lib.Math.min.code 2 (some .int), Cond.methodLink RX0 46 yX4_pieceAt, Cond.instanceMethod yX4_pieceAt, Cond.selects RX4 yX4_pieceAt yX4_pieceAt, Cond.code yX4_pieceAt cX4_pieceAt 3 (some .int), Cond.fieldLink RX4 15 "SyllableBook$Lattice" "piece" "[I", Cond.methodLink RX4 47 yX4_index, Cond.static yX4_index, Cond.code yX4_index cX4_index 2 (some .int), Cond.methodLink RX0 38 yX4_weightAt, Cond.instanceMethod yX4_weightAt]
def wsX0_shareOf_r2 : List Cond := [Cond.selects RX4 yX4_weightAt yX4_weightAt, Cond.code yX4_weightAt cX4_weightAt 5 (some .int), Cond.fieldLink RX4 18 "SyllableBook$Lattice" "weightOf" "[I", Cond.methodLink RX4 58 yX4_pieceAt, Cond.methodLink RX0 50 yX0_total, Cond.instanceMethod yX0_total, Cond.selects RX0 yX0_total yX0_total, Cond.initialized RX0, Cond.code yX0_total cX0_total 1 (some .long)]
def wsX0_shareOf : List Cond := .code yX0_shareOf cX0_shareOf 9 (some .int) :: ((wsX0_shareOf_r1 ++ wsX0_shareOf_r2) ++ wsX40 ++ wsX00)
def wsX1_init : List Cond := .code yX1_init cX1_init 1 none :: ([.methodLink RX1 3 objectInit, .instanceMethod objectInit, .code objectInit ⟨#[0xb1]⟩ 1 none, .arrayClass .long, .fieldLink RX1 9 "SyllableBook$BestCut" "restProduct" "[J", .arrayClass .int, .fieldLink RX1 15 "SyllableBook$BestCut" "restParts" "[I", .fieldLink RX1 19 "SyllableBook$BestCut" "restFirst" "[I", .fieldLink RX1 22 "SyllableBook$BestCut" "partPiece" "[I", .fieldLink RX1 25 "SyllableBook$BestCut" "partPlace" "[I", .fieldLink RX1 28 "SyllableBook$BestCut" "partLetters" "[I"] ++ wsX10)
def wsX1_findFirst_r1 : List Cond := [Cond.fieldLink RX1 9 "SyllableBook$BestCut" "restProduct" "[J", Cond.fieldLink RX1 15 "SyllableBook$BestCut" "restParts" "[I", Cond.fieldLink RX1 19 "SyllableBook$BestCut" "restFirst" "[I", Cond.methodLink RX1 45 yX4_mostLetters, Cond.instanceMethod yX4_mostLetters, Cond.selects RX4 yX4_mostLetters yX4_mostLetters, Cond.initialized RX4, Cond.code yX4_mostLetters cX4_mostLetters 2 (some .int), Cond.fieldLink RX4 26 "SyllableBook$Lattice" "length" "I", Cond.methodLink RX4 53 Lib.Math.min.name, Cond.static Lib.Math.min.name, Cond.initialized "java/lang/Math", Cond.code Lib.Math.min.name Lib.Math.min.code 2 (some .int), Cond.methodLink RX1 49 yX4_weightAt, Cond.instanceMethod yX4_weightAt, Cond.selects RX4 yX4_weightAt yX4_weightAt, Cond.code yX4_weightAt cX4_weightAt 5 (some .int), Cond.fieldLink RX4 18 "SyllableBook$Lattice" "weightOf" "[I", Cond.methodLink RX4 58 yX4_pieceAt, Cond.instanceMethod yX4_pieceAt, Cond.selects RX4 yX4_pieceAt yX4_pieceAt, Cond.code yX4_pieceAt cX4_pieceAt 3 (some .int), Cond.fieldLink RX4 15 "SyllableBook$Lattice" "piece" "[I", Cond.methodLink RX4 47 yX4_index]
def wsX1_findFirst_r2 : List Cond := [Cond.static yX4_index, Cond.code yX4_index cX4_index 2 (some .int)]
def wsX1_findFirst : List Cond := .code yX1_findFirst cX1_findFirst 10 none :: ((wsX1_findFirst_r1 ++ wsX1_findFirst_r2) ++ wsX10 ++ wsX40)
def wsX1_layOut : List Cond := .code yX1_layOut cX1_layOut 7 none :: ([.fieldLink RX1 15 "SyllableBook$BestCut" "restParts" "[I", .fieldLink RX1 53 "SyllableBook$BestCut" "parts" "I", .fieldLink RX1 56 "SyllableBook$BestCut" "unseen" "I", .fieldLink RX1 19 "SyllableBook$BestCut" "restFirst" "[I", .fieldLink RX1 22 "SyllableBook$BestCut" "partPiece" "[I", .fieldLink RX1 25 "SyllableBook$BestCut" "partPlace" "[I", .fieldLink RX1 28 "SyllableBook$BestCut" "partLetters" "[I", .methodLink RX1 59 yX4_pieceAt, .instanceMethod yX4_pieceAt, .selects RX4 yX4_pieceAt yX4_pieceAt, .initialized RX4, .code yX4_pieceAt cX4_pieceAt 3 (some .int), .fieldLink RX4 15 "SyllableBook$Lattice" "piece" "[I", .methodLink RX4 47 yX4_index, .static yX4_index, .code yX4_index cX4_index 2 (some .int)] ++ wsX10 ++ wsX40)
def wsX1_find_r1 : List Cond := [Cond.fieldLink RX1 9 "SyllableBook$BestCut" "restProduct" "[J", Cond.fieldLink RX1 31 "SyllableBook$Lattice" "length" "I", Cond.fieldLink RX1 15 "SyllableBook$BestCut" "restParts" "[I", Cond.methodLink RX1 37 yX1_findFirst, Cond.instanceMethod yX1_findFirst, Cond.selects RX1 yX1_findFirst yX1_findFirst, Cond.initialized RX1, Cond.code yX1_findFirst cX1_findFirst 10 none, Cond.fieldLink RX1 19 "SyllableBook$BestCut" "restFirst" "[I", Cond.methodLink RX1 45 yX4_mostLetters, Cond.instanceMethod yX4_mostLetters, Cond.selects RX4 yX4_mostLetters yX4_mostLetters, Cond.initialized RX4, Cond.code yX4_mostLetters cX4_mostLetters 2 (some .int), Cond.fieldLink RX4 26 "SyllableBook$Lattice" "length" "I", Cond.methodLink RX4 53 Lib.Math.min.name, Cond.static Lib.Math.min.name, Cond.initialized "java/lang/Math", Cond.code Lib.Math.min.name Lib.Math.min.code 2 (some .int), Cond.methodLink RX1 49 yX4_weightAt, Cond.instanceMethod yX4_weightAt, Cond.selects RX4 yX4_weightAt yX4_weightAt, Cond.code yX4_weightAt cX4_weightAt 5 (some .int), Cond.fieldLink RX4 18 "SyllableBook$Lattice" "weightOf" "[I"]
def wsX1_find_r2 : List Cond := [Cond.methodLink RX4 58 yX4_pieceAt, Cond.instanceMethod yX4_pieceAt, Cond.selects RX4 yX4_pieceAt yX4_pieceAt, Cond.code yX4_pieceAt cX4_pieceAt 3 (some .int), Cond.fieldLink RX4 15 "SyllableBook$Lattice" "piece" "[I", Cond.methodLink RX4 47 yX4_index, Cond.static yX4_index, Cond.code yX4_index cX4_index 2 (some .int), Cond.methodLink RX1 41 yX1_layOut, Cond.instanceMethod yX1_layOut, Cond.selects RX1 yX1_layOut yX1_layOut, Cond.code yX1_layOut cX1_layOut 7 none, Cond.fieldLink RX1 53 "SyllableBook$BestCut" "parts" "I", Cond.fieldLink RX1 56 "SyllableBook$BestCut" "unseen" "I", Cond.fieldLink RX1 22 "SyllableBook$BestCut" "partPiece" "[I", Cond.fieldLink RX1 25 "SyllableBook$BestCut" "partPlace" "[I", Cond.fieldLink RX1 28 "SyllableBook$BestCut" "partLetters" "[I", Cond.methodLink RX1 59 yX4_pieceAt]
def wsX1_find : List Cond := .code yX1_find cX1_find 4 none :: ((wsX1_find_r1 ++ wsX1_find_r2) ++ wsX10 ++ wsX40)
def wsX1_greatestProduct : List Cond := .code yX1_greatestProduct cX1_greatestProduct 1 (some .long) :: ([.fieldLink RX1 9 "SyllableBook$BestCut" "restProduct" "[J"] ++ wsX10)
def wsX1_cost : List Cond := .code yX1_cost cX1_cost 1 (some .int) :: ([.fieldLink RX1 53 "SyllableBook$BestCut" "parts" "I", .fieldLink RX1 56 "SyllableBook$BestCut" "unseen" "I"] ++ wsX10)
def wsX2_init : List Cond := .code yX2_init cX2_init 1 none :: ([.methodLink RX2 3 objectInit, .instanceMethod objectInit, .code objectInit ⟨#[0xb1]⟩ 1 none, .arrayClass .int, .fieldLink RX2 9 "SyllableBook$Contents" "pieceText" "[I", .fieldLink RX2 15 "SyllableBook$Contents" "pieceLetters" "[I", .fieldLink RX2 18 "SyllableBook$Contents" "pieceWeight" "[I", .fieldLink RX2 21 "SyllableBook$Contents" "wordLetters" "[I", .fieldLink RX2 24 "SyllableBook$Contents" "wordCount" "[I", .fieldLink RX2 27 "SyllableBook$Contents" "letters" "[I"] ++ wsX20)
def wsX2_copyFrom : List Cond := .code yX2_copyFrom cX2_copyFrom 2 none :: ([.fieldLink RX2 30 "SyllableBook$Contents" "pieces" "I", .fieldLink RX2 9 "SyllableBook$Contents" "pieceText" "[I", .methodLink RX2 34 arraycopyName, .native arraycopyName, .static arraycopyName, .initialized "java/lang/System", .fieldLink RX2 15 "SyllableBook$Contents" "pieceLetters" "[I", .fieldLink RX2 18 "SyllableBook$Contents" "pieceWeight" "[I", .fieldLink RX2 40 "SyllableBook$Contents" "words" "I", .fieldLink RX2 21 "SyllableBook$Contents" "wordLetters" "[I", .fieldLink RX2 24 "SyllableBook$Contents" "wordCount" "[I", .fieldLink RX2 27 "SyllableBook$Contents" "letters" "[I"] ++ wsX20)
def wsX2_pieceWith : List Cond := .code yX2_pieceWith cX2_pieceWith 3 (some .int) :: ([.fieldLink RX2 30 "SyllableBook$Contents" "pieces" "I", .fieldLink RX2 9 "SyllableBook$Contents" "pieceText" "[I"] ++ wsX20)
def wsX2_addPiece : List Cond := .code yX2_addPiece cX2_addPiece 4 none :: ([.fieldLink RX2 30 "SyllableBook$Contents" "pieces" "I", .fieldLink RX2 9 "SyllableBook$Contents" "pieceText" "[I", .fieldLink RX2 15 "SyllableBook$Contents" "pieceLetters" "[I", .fieldLink RX2 18 "SyllableBook$Contents" "pieceWeight" "[I"] ++ wsX20)
def wsX2_removePiece : List Cond := .code yX2_removePiece cX2_removePiece 2 none :: ([.fieldLink RX2 30 "SyllableBook$Contents" "pieces" "I", .fieldLink RX2 9 "SyllableBook$Contents" "pieceText" "[I", .methodLink RX2 34 arraycopyName, .native arraycopyName, .static arraycopyName, .initialized "java/lang/System", .fieldLink RX2 15 "SyllableBook$Contents" "pieceLetters" "[I", .fieldLink RX2 18 "SyllableBook$Contents" "pieceWeight" "[I"] ++ wsX20)
def wsX2_letterAt : List Cond := .code yX2_letterAt cX2_letterAt 3 (some .int) :: ([.fieldLink RX2 27 "SyllableBook$Contents" "letters" "[I"] ++ wsX20)
def wsX6_letterAt : List Cond := .code yX6_letterAt cX6_letterAt 2 (some .int) :: ([.fieldLink RX6 9 "SyllableBook$Pad" "codes" "[I"] ++ wsX60)
def wsX2_addWord : List Cond := .code yX2_addWord cX2_addWord 4 none :: ([.fieldLink RX2 40 "SyllableBook$Contents" "words" "I", .fieldLink RX2 43 "SyllableBook$Pad" "length" "I", .fieldLink RX2 27 "SyllableBook$Contents" "letters" "[I", .fieldLink RX2 21 "SyllableBook$Contents" "wordLetters" "[I", .fieldLink RX2 24 "SyllableBook$Contents" "wordCount" "[I", .methodLink RX2 48 yX6_letterAt, .instanceMethod yX6_letterAt, .selects RX6 yX6_letterAt yX6_letterAt, .initialized RX6, .code yX6_letterAt cX6_letterAt 2 (some .int), .fieldLink RX6 9 "SyllableBook$Pad" "codes" "[I"] ++ wsX20 ++ wsX60)
def wsX2_removeWord : List Cond := .code yX2_removeWord cX2_removeWord 3 none :: ([.fieldLink RX2 40 "SyllableBook$Contents" "words" "I", .fieldLink RX2 21 "SyllableBook$Contents" "wordLetters" "[I", .methodLink RX2 34 arraycopyName, .native arraycopyName, .static arraycopyName, .initialized "java/lang/System", .fieldLink RX2 24 "SyllableBook$Contents" "wordCount" "[I", .fieldLink RX2 27 "SyllableBook$Contents" "letters" "[I"] ++ wsX20)
def wsX3_init : List Cond := .code yX3_init cX3_init 2 none :: ([.methodLink RX3 3 objectInit, .instanceMethod objectInit, .code objectInit ⟨#[0xb1]⟩ 1 none, .classLink RX3 9 RX2, .fieldLink RX3 11 "SyllableBook$History" "states" "[LSyllableBook$Contents;", .instantiable RX2 8, .initialized RX2, .instanceMethod yX2_init, .code yX2_init cX2_init 1 none, .methodLink RX2 3 objectInit, .arrayClass .int, .fieldLink RX2 9 "SyllableBook$Contents" "pieceText" "[I", .fieldLink RX2 15 "SyllableBook$Contents" "pieceLetters" "[I", .fieldLink RX2 18 "SyllableBook$Contents" "pieceWeight" "[I", .fieldLink RX2 21 "SyllableBook$Contents" "wordLetters" "[I", .fieldLink RX2 24 "SyllableBook$Contents" "wordCount" "[I", .fieldLink RX2 27 "SyllableBook$Contents" "letters" "[I"] ++ wsX30 ++ wsX20)
def wsX3_dropOldest : List Cond := .code yX3_dropOldest cX3_dropOldest 3 none :: ([.fieldLink RX3 11 "SyllableBook$History" "states" "[LSyllableBook$Contents;", .fieldLink RX3 18 "SyllableBook$History" "size" "I"] ++ wsX30)
def wsX3_record : List Cond := .code yX3_record cX3_record 2 none :: ([.fieldLink RX3 18 "SyllableBook$History" "size" "I", .fieldLink RX3 11 "SyllableBook$History" "states" "[LSyllableBook$Contents;", .methodLink RX3 22 yX3_dropOldest, .instanceMethod yX3_dropOldest, .selects RX3 yX3_dropOldest yX3_dropOldest, .initialized RX3, .code yX3_dropOldest cX3_dropOldest 3 none, .methodLink RX3 25 yX2_copyFrom, .instanceMethod yX2_copyFrom, .selects RX2 yX2_copyFrom yX2_copyFrom, .initialized RX2, .code yX2_copyFrom cX2_copyFrom 2 none, .fieldLink RX2 30 "SyllableBook$Contents" "pieces" "I", .fieldLink RX2 9 "SyllableBook$Contents" "pieceText" "[I", .methodLink RX2 34 arraycopyName, .native arraycopyName, .static arraycopyName, .initialized "java/lang/System", .fieldLink RX2 15 "SyllableBook$Contents" "pieceLetters" "[I", .fieldLink RX2 18 "SyllableBook$Contents" "pieceWeight" "[I", .fieldLink RX2 40 "SyllableBook$Contents" "words" "I", .fieldLink RX2 21 "SyllableBook$Contents" "wordLetters" "[I", .fieldLink RX2 24 "SyllableBook$Contents" "wordCount" "[I", .fieldLink RX2 27 "SyllableBook$Contents" "letters" "[I"] ++ wsX30 ++ wsX20)
def wsX3_takeBack : List Cond := .code yX3_takeBack cX3_takeBack 2 none :: ([.fieldLink RX3 18 "SyllableBook$History" "size" "I", .fieldLink RX3 11 "SyllableBook$History" "states" "[LSyllableBook$Contents;", .methodLink RX3 25 yX2_copyFrom, .instanceMethod yX2_copyFrom, .selects RX2 yX2_copyFrom yX2_copyFrom, .initialized RX2, .code yX2_copyFrom cX2_copyFrom 2 none, .fieldLink RX2 30 "SyllableBook$Contents" "pieces" "I", .fieldLink RX2 9 "SyllableBook$Contents" "pieceText" "[I", .methodLink RX2 34 arraycopyName, .native arraycopyName, .static arraycopyName, .initialized "java/lang/System", .fieldLink RX2 15 "SyllableBook$Contents" "pieceLetters" "[I", .fieldLink RX2 18 "SyllableBook$Contents" "pieceWeight" "[I", .fieldLink RX2 40 "SyllableBook$Contents" "words" "I", .fieldLink RX2 21 "SyllableBook$Contents" "wordLetters" "[I", .fieldLink RX2 24 "SyllableBook$Contents" "wordCount" "[I", .fieldLink RX2 27 "SyllableBook$Contents" "letters" "[I"] ++ wsX30 ++ wsX20)
def wsX4_init : List Cond := .code yX4_init cX4_init 1 none :: ([.methodLink RX4 3 objectInit, .instanceMethod objectInit, .code objectInit ⟨#[0xb1]⟩ 1 none, .arrayClass .int, .fieldLink RX4 9 "SyllableBook$Lattice" "text" "[I", .fieldLink RX4 15 "SyllableBook$Lattice" "piece" "[I", .fieldLink RX4 18 "SyllableBook$Lattice" "weightOf" "[I"] ++ wsX40)
def wsX4_read_r1 : List Cond := [Cond.fieldLink RX4 21 "SyllableBook$Contents" "wordLetters" "[I", Cond.fieldLink RX4 26 "SyllableBook$Lattice" "length" "I", Cond.fieldLink RX4 30 "SyllableBook$Contents" "pieceWeight" "[I", Cond.fieldLink RX4 18 "SyllableBook$Lattice" "weightOf" "[I", Cond.methodLink RX4 33 arraycopyName, Cond.native arraycopyName, Cond.static arraycopyName, Cond.initialized "java/lang/System", Cond.fieldLink RX4 9 "SyllableBook$Lattice" "text" "[I", Cond.fieldLink RX4 15 "SyllableBook$Lattice" "piece" "[I", Cond.methodLink RX4 39 yX4_mostLetters, Cond.instanceMethod yX4_mostLetters, Cond.selects RX4 yX4_mostLetters yX4_mostLetters, Cond.initialized RX4, Cond.code yX4_mostLetters cX4_mostLetters 2 (some .int), Cond.methodLink RX4 53 Lib.Math.min.name, Cond.static Lib.Math.min.name, Cond.initialized "java/lang/Math", Cond.code Lib.Math.min.name Lib.Math.min.code 2 (some .int), Cond.methodLink RX4 43 yX2_letterAt, Cond.instanceMethod yX2_letterAt, Cond.selects RX2 yX2_letterAt yX2_letterAt, Cond.initialized RX2, Cond.code yX2_letterAt cX2_letterAt 3 (some .int)]
def wsX4_read_r2 : List Cond := [Cond.fieldLink RX2 27 "SyllableBook$Contents" "letters" "[I", Cond.methodLink RX4 47 yX4_index, Cond.static yX4_index, Cond.code yX4_index cX4_index 2 (some .int), Cond.methodLink RX4 50 yX2_pieceWith, Cond.instanceMethod yX2_pieceWith, Cond.selects RX2 yX2_pieceWith yX2_pieceWith, Cond.code yX2_pieceWith cX2_pieceWith 3 (some .int), Cond.fieldLink RX2 30 "SyllableBook$Contents" "pieces" "I", Cond.fieldLink RX2 9 "SyllableBook$Contents" "pieceText" "[I"]
def wsX4_read : List Cond := .code yX4_read cX4_read 7 none :: ((wsX4_read_r1 ++ wsX4_read_r2) ++ wsX20 ++ wsX40)
def wsX4_textAt : List Cond := .code yX4_textAt cX4_textAt 3 (some .int) :: ([.fieldLink RX4 9 "SyllableBook$Lattice" "text" "[I", .methodLink RX4 47 yX4_index, .static yX4_index, .initialized RX4, .code yX4_index cX4_index 2 (some .int)] ++ wsX40)
def wsX5_init : List Cond := .code yX5_init cX5_init 1 none :: ([.methodLink RX5 3 objectInit, .instanceMethod objectInit, .code objectInit ⟨#[0xb1]⟩ 1 none, .arrayClass .int, .fieldLink RX5 11 "SyllableBook$Neighbours" "text" "[I", .fieldLink RX5 15 "SyllableBook$Neighbours" "letters" "[I", .fieldLink RX5 18 "SyllableBook$Neighbours" "weight" "[I", .fieldLink RX5 21 "SyllableBook$Neighbours" "times" "[I"] ++ wsX50)
def wsX5_add : List Cond := .code yX5_add cX5_add 6 none :: ([.fieldLink RX5 24 "SyllableBook$Neighbours" "size" "I", .fieldLink RX5 11 "SyllableBook$Neighbours" "text" "[I", .fieldLink RX5 21 "SyllableBook$Neighbours" "times" "[I", .fieldLink RX5 15 "SyllableBook$Neighbours" "letters" "[I", .fieldLink RX5 18 "SyllableBook$Neighbours" "weight" "[I"] ++ wsX50)
def wsX5_mostFrequent : List Cond := .code yX5_mostFrequent cX5_mostFrequent 3 (some .int) :: ([.fieldLink RX5 24 "SyllableBook$Neighbours" "size" "I", .fieldLink RX5 21 "SyllableBook$Neighbours" "times" "[I", .fieldLink RX5 11 "SyllableBook$Neighbours" "text" "[I"] ++ wsX50)
def wsX6_init : List Cond := .code yX6_init cX6_init 1 none :: ([.methodLink RX6 3 objectInit, .instanceMethod objectInit, .code objectInit ⟨#[0xb1]⟩ 1 none, .arrayClass .int, .fieldLink RX6 9 "SyllableBook$Pad" "codes" "[I"] ++ wsX60)
def wsX6_append : List Cond := .code yX6_append cX6_append 2 none :: ([.fieldLink RX6 15 "SyllableBook$Pad" "length" "I", .fieldLink RX6 9 "SyllableBook$Pad" "codes" "[I"] ++ wsX60)
def wsX6_firstNoLetter : List Cond := .code yX6_firstNoLetter cX6_firstNoLetter 2 (some .int) :: ([.fieldLink RX6 15 "SyllableBook$Pad" "length" "I", .methodLink RX6 19 yX6_letterAt, .instanceMethod yX6_letterAt, .selects RX6 yX6_letterAt yX6_letterAt, .initialized RX6, .code yX6_letterAt cX6_letterAt 2 (some .int), .fieldLink RX6 9 "SyllableBook$Pad" "codes" "[I"] ++ wsX60)
def wsX6_holdsLetters : List Cond := .code yX6_holdsLetters cX6_holdsLetters 2 (some .boolean) :: ([.fieldLink RX6 15 "SyllableBook$Pad" "length" "I", .methodLink RX6 23 yX6_firstNoLetter, .instanceMethod yX6_firstNoLetter, .selects RX6 yX6_firstNoLetter yX6_firstNoLetter, .initialized RX6, .code yX6_firstNoLetter cX6_firstNoLetter 2 (some .int), .methodLink RX6 19 yX6_letterAt, .instanceMethod yX6_letterAt, .selects RX6 yX6_letterAt yX6_letterAt, .code yX6_letterAt cX6_letterAt 2 (some .int), .fieldLink RX6 9 "SyllableBook$Pad" "codes" "[I"] ++ wsX60)
def wsX6_text : List Cond := .code yX6_text cX6_text 3 (some .int) :: ([.fieldLink RX6 15 "SyllableBook$Pad" "length" "I", .methodLink RX6 19 yX6_letterAt, .instanceMethod yX6_letterAt, .selects RX6 yX6_letterAt yX6_letterAt, .initialized RX6, .code yX6_letterAt cX6_letterAt 2 (some .int), .fieldLink RX6 9 "SyllableBook$Pad" "codes" "[I"] ++ wsX60)
def wsX7_init_r1 : List Cond := [Cond.methodLink RX7 1 objectInit, Cond.instanceMethod objectInit, Cond.code objectInit ⟨#[0xb1]⟩ 1 none, Cond.classLink RX7 7 RX2, Cond.instantiable RX2 8, Cond.initialized RX2, Cond.fieldLink RX7 10 "SyllableBook" "contents" "LSyllableBook$Contents;", Cond.fieldLink RX7 16 "SyllableBook" "trial" "LSyllableBook$Contents;", Cond.fieldLink RX7 19 "SyllableBook" "slots" "[LSyllableBook$Contents;", Cond.arrayClass .boolean, Cond.fieldLink RX7 23 "SyllableBook" "saved" "[Z", Cond.classLink RX7 27 RX3, Cond.instantiable RX3 2, Cond.initialized RX3, Cond.fieldLink RX7 30 "SyllableBook" "history" "LSyllableBook$History;", Cond.classLink RX7 34 RX6, Cond.instantiable RX6 2, Cond.initialized RX6, Cond.fieldLink RX7 37 "SyllableBook" "pad" "LSyllableBook$Pad;", Cond.classLink RX7 41 RX4, Cond.instantiable RX4 4, Cond.initialized RX4, Cond.fieldLink RX7 44 "SyllableBook" "lattice" "LSyllableBook$Lattice;", Cond.classLink RX7 48 RX1]
def wsX7_init_r2 : List Cond := [Cond.instantiable RX1 8, Cond.initialized RX1, Cond.fieldLink RX7 51 "SyllableBook" "best" "LSyllableBook$BestCut;", Cond.classLink RX7 55 RX0, Cond.instantiable RX0 3, Cond.initialized RX0, Cond.fieldLink RX7 58 "SyllableBook" "all" "LSyllableBook$AllCuts;", Cond.classLink RX7 62 RX5, Cond.instantiable RX5 5, Cond.initialized RX5, Cond.fieldLink RX7 65 "SyllableBook" "neighbours" "LSyllableBook$Neighbours;", Cond.arrayClass .int, Cond.fieldLink RX7 69 "SyllableBook" "borne" "[I", Cond.fieldLink RX7 73 "SyllableBook" "costWithout" "[I", Cond.instanceMethod yX2_init, Cond.code yX2_init cX2_init 1 none, Cond.methodLink RX2 3 objectInit, Cond.fieldLink RX2 9 "SyllableBook$Contents" "pieceText" "[I", Cond.fieldLink RX2 15 "SyllableBook$Contents" "pieceLetters" "[I", Cond.fieldLink RX2 18 "SyllableBook$Contents" "pieceWeight" "[I", Cond.fieldLink RX2 21 "SyllableBook$Contents" "wordLetters" "[I", Cond.fieldLink RX2 24 "SyllableBook$Contents" "wordCount" "[I", Cond.fieldLink RX2 27 "SyllableBook$Contents" "letters" "[I", Cond.methodLink RX7 29 yX3_init]
def wsX7_init_r3 : List Cond := [Cond.instanceMethod yX3_init, Cond.code yX3_init cX3_init 2 none, Cond.methodLink RX3 3 objectInit, Cond.classLink RX3 9 RX2, Cond.fieldLink RX3 11 "SyllableBook$History" "states" "[LSyllableBook$Contents;", Cond.instanceMethod yX6_init, Cond.code yX6_init cX6_init 1 none, Cond.methodLink RX6 3 objectInit, Cond.fieldLink RX6 9 "SyllableBook$Pad" "codes" "[I", Cond.instanceMethod yX4_init, Cond.code yX4_init cX4_init 1 none, Cond.methodLink RX4 3 objectInit, Cond.fieldLink RX4 9 "SyllableBook$Lattice" "text" "[I", Cond.fieldLink RX4 15 "SyllableBook$Lattice" "piece" "[I", Cond.fieldLink RX4 18 "SyllableBook$Lattice" "weightOf" "[I", Cond.instanceMethod yX1_init, Cond.code yX1_init cX1_init 1 none, Cond.methodLink RX1 3 objectInit, Cond.arrayClass .long, Cond.fieldLink RX1 9 "SyllableBook$BestCut" "restProduct" "[J", Cond.fieldLink RX1 15 "SyllableBook$BestCut" "restParts" "[I", Cond.fieldLink RX1 19 "SyllableBook$BestCut" "restFirst" "[I", Cond.fieldLink RX1 22 "SyllableBook$BestCut" "partPiece" "[I", Cond.fieldLink RX1 25 "SyllableBook$BestCut" "partPlace" "[I"]
def wsX7_init_r4 : List Cond := [Cond.fieldLink RX1 28 "SyllableBook$BestCut" "partLetters" "[I", Cond.instanceMethod yX0_init, Cond.code yX0_init cX0_init 1 none, Cond.methodLink RX0 3 objectInit, Cond.fieldLink RX0 9 "SyllableBook$AllCuts" "before" "[J", Cond.fieldLink RX0 15 "SyllableBook$AllCuts" "behind" "[J", Cond.fieldLink RX0 18 "SyllableBook$AllCuts" "cutsBehind" "[I", Cond.instanceMethod yX5_init, Cond.code yX5_init cX5_init 1 none, Cond.methodLink RX5 3 objectInit, Cond.fieldLink RX5 11 "SyllableBook$Neighbours" "text" "[I", Cond.fieldLink RX5 15 "SyllableBook$Neighbours" "letters" "[I", Cond.fieldLink RX5 18 "SyllableBook$Neighbours" "weight" "[I", Cond.fieldLink RX5 21 "SyllableBook$Neighbours" "times" "[I"]
def wsX7_init : List Cond := .code yX7_init cX7_init 2 none :: ((wsX7_init_r1 ++ (wsX7_init_r2 ++ (wsX7_init_r3 ++ wsX7_init_r4))) ++ wsX20 ++ wsX70 ++ wsX30 ++ wsX60 ++ wsX40 ++ wsX10 ++ wsX00 ++ wsX50)
def wsX7_newPieceError_r1 : List Cond := [Cond.fieldLink RX7 37 "SyllableBook" "pad" "LSyllableBook$Pad;", Cond.fieldLink RX7 10 "SyllableBook" "contents" "LSyllableBook$Contents;", Cond.fieldLink RX7 96 "SyllableBook$Contents" "pieces" "I", Cond.methodLink RX7 110 yX6_holdsLetters, Cond.instanceMethod yX6_holdsLetters, Cond.selects RX6 yX6_holdsLetters yX6_holdsLetters, Cond.initialized RX6, Cond.code yX6_holdsLetters cX6_holdsLetters 2 (some .boolean), Cond.fieldLink RX6 15 "SyllableBook$Pad" "length" "I", Cond.methodLink RX6 23 yX6_firstNoLetter, Cond.instanceMethod yX6_firstNoLetter, Cond.selects RX6 yX6_firstNoLetter yX6_firstNoLetter, Cond.code yX6_firstNoLetter cX6_firstNoLetter 2 (some .int), Cond.methodLink RX6 19 yX6_letterAt, Cond.instanceMethod yX6_letterAt, Cond.selects RX6 yX6_letterAt yX6_letterAt, Cond.code yX6_letterAt cX6_letterAt 2 (some .int), Cond.fieldLink RX6 9 "SyllableBook$Pad" "codes" "[I", Cond.methodLink RX7 84 yX6_text, Cond.instanceMethod yX6_text, Cond.selects RX6 yX6_text yX6_text, Cond.code yX6_text cX6_text 3 (some .int), Cond.methodLink RX7 254 yX2_pieceWith, Cond.instanceMethod yX2_pieceWith]
def wsX7_newPieceError_r2 : List Cond := [Cond.selects RX2 yX2_pieceWith yX2_pieceWith, Cond.initialized RX2, Cond.code yX2_pieceWith cX2_pieceWith 3 (some .int), Cond.fieldLink RX2 30 "SyllableBook$Contents" "pieces" "I", Cond.fieldLink RX2 9 "SyllableBook$Contents" "pieceText" "[I"]
def wsX7_newPieceError : List Cond := .code yX7_newPieceError cX7_newPieceError 2 (some .int) :: ((wsX7_newPieceError_r1 ++ wsX7_newPieceError_r2) ++ wsX70 ++ wsX20 ++ wsX60)
def wsX7_piece_r1 : List Cond := [Cond.fieldLink RX7 30 "SyllableBook" "history" "LSyllableBook$History;", Cond.fieldLink RX7 10 "SyllableBook" "contents" "LSyllableBook$Contents;", Cond.fieldLink RX7 37 "SyllableBook" "pad" "LSyllableBook$Pad;", Cond.fieldLink RX7 88 "SyllableBook$Pad" "length" "I", Cond.fieldLink RX7 96 "SyllableBook$Contents" "pieces" "I", Cond.methodLink RX7 76 yX7_newPieceError, Cond.instanceMethod yX7_newPieceError, Cond.selects RX7 yX7_newPieceError yX7_newPieceError, Cond.initialized RX7, Cond.code yX7_newPieceError cX7_newPieceError 2 (some .int), Cond.methodLink RX7 110 yX6_holdsLetters, Cond.instanceMethod yX6_holdsLetters, Cond.selects RX6 yX6_holdsLetters yX6_holdsLetters, Cond.initialized RX6, Cond.code yX6_holdsLetters cX6_holdsLetters 2 (some .boolean), Cond.fieldLink RX6 15 "SyllableBook$Pad" "length" "I", Cond.methodLink RX6 23 yX6_firstNoLetter, Cond.instanceMethod yX6_firstNoLetter, Cond.selects RX6 yX6_firstNoLetter yX6_firstNoLetter, Cond.code yX6_firstNoLetter cX6_firstNoLetter 2 (some .int), Cond.methodLink RX6 19 yX6_letterAt, Cond.instanceMethod yX6_letterAt, Cond.selects RX6 yX6_letterAt yX6_letterAt, Cond.code yX6_letterAt cX6_letterAt 2 (some .int)]
def wsX7_piece_r2 : List Cond := [Cond.fieldLink RX6 9 "SyllableBook$Pad" "codes" "[I", Cond.methodLink RX7 84 yX6_text, Cond.instanceMethod yX6_text, Cond.selects RX6 yX6_text yX6_text, Cond.code yX6_text cX6_text 3 (some .int), Cond.methodLink RX7 254 yX2_pieceWith, Cond.instanceMethod yX2_pieceWith, Cond.selects RX2 yX2_pieceWith yX2_pieceWith, Cond.initialized RX2, Cond.code yX2_pieceWith cX2_pieceWith 3 (some .int), Cond.fieldLink RX2 30 "SyllableBook$Contents" "pieces" "I", Cond.fieldLink RX2 9 "SyllableBook$Contents" "pieceText" "[I", Cond.methodLink RX7 80 yX3_record, Cond.instanceMethod yX3_record, Cond.selects RX3 yX3_record yX3_record, Cond.initialized RX3, Cond.code yX3_record cX3_record 2 none, Cond.fieldLink RX3 18 "SyllableBook$History" "size" "I", Cond.fieldLink RX3 11 "SyllableBook$History" "states" "[LSyllableBook$Contents;", Cond.methodLink RX3 22 yX3_dropOldest, Cond.instanceMethod yX3_dropOldest, Cond.selects RX3 yX3_dropOldest yX3_dropOldest, Cond.code yX3_dropOldest cX3_dropOldest 3 none, Cond.methodLink RX3 25 yX2_copyFrom]
def wsX7_piece_r3 : List Cond := [Cond.instanceMethod yX2_copyFrom, Cond.selects RX2 yX2_copyFrom yX2_copyFrom, Cond.code yX2_copyFrom cX2_copyFrom 2 none, Cond.methodLink RX2 34 arraycopyName, Cond.native arraycopyName, Cond.static arraycopyName, Cond.initialized "java/lang/System", Cond.fieldLink RX2 15 "SyllableBook$Contents" "pieceLetters" "[I", Cond.fieldLink RX2 18 "SyllableBook$Contents" "pieceWeight" "[I", Cond.fieldLink RX2 40 "SyllableBook$Contents" "words" "I", Cond.fieldLink RX2 21 "SyllableBook$Contents" "wordLetters" "[I", Cond.fieldLink RX2 24 "SyllableBook$Contents" "wordCount" "[I", Cond.fieldLink RX2 27 "SyllableBook$Contents" "letters" "[I", Cond.methodLink RX7 92 yX2_addPiece, Cond.instanceMethod yX2_addPiece, Cond.selects RX2 yX2_addPiece yX2_addPiece, Cond.code yX2_addPiece cX2_addPiece 4 none]
def wsX7_piece : List Cond := .code yX7_piece cX7_piece 3 (some .int) :: ((wsX7_piece_r1 ++ (wsX7_piece_r2 ++ wsX7_piece_r3)) ++ wsX70 ++ wsX60 ++ wsX20 ++ wsX30)
def wsX7_isPiece : List Cond := .code yX7_isPiece cX7_isPiece 2 (some .boolean) :: ([.fieldLink RX7 10 "SyllableBook" "contents" "LSyllableBook$Contents;", .fieldLink RX7 96 "SyllableBook$Contents" "pieces" "I"] ++ wsX70 ++ wsX20)
def wsX7_weigh_r1 : List Cond := [Cond.fieldLink RX7 30 "SyllableBook" "history" "LSyllableBook$History;", Cond.fieldLink RX7 10 "SyllableBook" "contents" "LSyllableBook$Contents;", Cond.fieldLink RX7 103 "SyllableBook$Contents" "pieceWeight" "[I", Cond.methodLink RX7 99 yX7_isPiece, Cond.instanceMethod yX7_isPiece, Cond.selects RX7 yX7_isPiece yX7_isPiece, Cond.initialized RX7, Cond.code yX7_isPiece cX7_isPiece 2 (some .boolean), Cond.fieldLink RX7 96 "SyllableBook$Contents" "pieces" "I", Cond.methodLink RX7 80 yX3_record, Cond.instanceMethod yX3_record, Cond.selects RX3 yX3_record yX3_record, Cond.initialized RX3, Cond.code yX3_record cX3_record 2 none, Cond.fieldLink RX3 18 "SyllableBook$History" "size" "I", Cond.fieldLink RX3 11 "SyllableBook$History" "states" "[LSyllableBook$Contents;", Cond.methodLink RX3 22 yX3_dropOldest, Cond.instanceMethod yX3_dropOldest, Cond.selects RX3 yX3_dropOldest yX3_dropOldest, Cond.code yX3_dropOldest cX3_dropOldest 3 none, Cond.methodLink RX3 25 yX2_copyFrom, Cond.instanceMethod yX2_copyFrom, Cond.selects RX2 yX2_copyFrom yX2_copyFrom, Cond.initialized RX2]
def wsX7_weigh_r2 : List Cond := [Cond.code yX2_copyFrom cX2_copyFrom 2 none, Cond.fieldLink RX2 30 "SyllableBook$Contents" "pieces" "I", Cond.fieldLink RX2 9 "SyllableBook$Contents" "pieceText" "[I", Cond.methodLink RX2 34 arraycopyName, Cond.native arraycopyName, Cond.static arraycopyName, Cond.initialized "java/lang/System", Cond.fieldLink RX2 15 "SyllableBook$Contents" "pieceLetters" "[I", Cond.fieldLink RX2 18 "SyllableBook$Contents" "pieceWeight" "[I", Cond.fieldLink RX2 40 "SyllableBook$Contents" "words" "I", Cond.fieldLink RX2 21 "SyllableBook$Contents" "wordLetters" "[I", Cond.fieldLink RX2 24 "SyllableBook$Contents" "wordCount" "[I", Cond.fieldLink RX2 27 "SyllableBook$Contents" "letters" "[I"]
def wsX7_weigh : List Cond := .code yX7_weigh cX7_weigh 4 (some .int) :: ((wsX7_weigh_r1 ++ wsX7_weigh_r2) ++ wsX70 ++ wsX20 ++ wsX30)
def wsX7_drop_r1 : List Cond := [Cond.fieldLink RX7 30 "SyllableBook" "history" "LSyllableBook$History;", Cond.fieldLink RX7 10 "SyllableBook" "contents" "LSyllableBook$Contents;", Cond.fieldLink RX7 96 "SyllableBook$Contents" "pieces" "I", Cond.methodLink RX7 99 yX7_isPiece, Cond.instanceMethod yX7_isPiece, Cond.selects RX7 yX7_isPiece yX7_isPiece, Cond.initialized RX7, Cond.code yX7_isPiece cX7_isPiece 2 (some .boolean), Cond.methodLink RX7 80 yX3_record, Cond.instanceMethod yX3_record, Cond.selects RX3 yX3_record yX3_record, Cond.initialized RX3, Cond.code yX3_record cX3_record 2 none, Cond.fieldLink RX3 18 "SyllableBook$History" "size" "I", Cond.fieldLink RX3 11 "SyllableBook$History" "states" "[LSyllableBook$Contents;", Cond.methodLink RX3 22 yX3_dropOldest, Cond.instanceMethod yX3_dropOldest, Cond.selects RX3 yX3_dropOldest yX3_dropOldest, Cond.code yX3_dropOldest cX3_dropOldest 3 none, Cond.methodLink RX3 25 yX2_copyFrom, Cond.instanceMethod yX2_copyFrom, Cond.selects RX2 yX2_copyFrom yX2_copyFrom, Cond.initialized RX2, Cond.code yX2_copyFrom cX2_copyFrom 2 none]
def wsX7_drop_r2 : List Cond := [Cond.fieldLink RX2 30 "SyllableBook$Contents" "pieces" "I", Cond.fieldLink RX2 9 "SyllableBook$Contents" "pieceText" "[I", Cond.methodLink RX2 34 arraycopyName, Cond.native arraycopyName, Cond.static arraycopyName, Cond.initialized "java/lang/System", Cond.fieldLink RX2 15 "SyllableBook$Contents" "pieceLetters" "[I", Cond.fieldLink RX2 18 "SyllableBook$Contents" "pieceWeight" "[I", Cond.fieldLink RX2 40 "SyllableBook$Contents" "words" "I", Cond.fieldLink RX2 21 "SyllableBook$Contents" "wordLetters" "[I", Cond.fieldLink RX2 24 "SyllableBook$Contents" "wordCount" "[I", Cond.fieldLink RX2 27 "SyllableBook$Contents" "letters" "[I", Cond.methodLink RX7 106 yX2_removePiece, Cond.instanceMethod yX2_removePiece, Cond.selects RX2 yX2_removePiece yX2_removePiece, Cond.code yX2_removePiece cX2_removePiece 2 none]
def wsX7_drop : List Cond := .code yX7_drop cX7_drop 2 (some .int) :: ((wsX7_drop_r1 ++ wsX7_drop_r2) ++ wsX70 ++ wsX20 ++ wsX30)
def wsX7_word_r1 : List Cond := [Cond.fieldLink RX7 37 "SyllableBook" "pad" "LSyllableBook$Pad;", Cond.fieldLink RX7 10 "SyllableBook" "contents" "LSyllableBook$Contents;", Cond.fieldLink RX7 113 "SyllableBook$Contents" "words" "I", Cond.fieldLink RX7 30 "SyllableBook" "history" "LSyllableBook$History;", Cond.fieldLink RX7 88 "SyllableBook$Pad" "length" "I", Cond.methodLink RX7 110 yX6_holdsLetters, Cond.instanceMethod yX6_holdsLetters, Cond.selects RX6 yX6_holdsLetters yX6_holdsLetters, Cond.initialized RX6, Cond.code yX6_holdsLetters cX6_holdsLetters 2 (some .boolean), Cond.fieldLink RX6 15 "SyllableBook$Pad" "length" "I", Cond.methodLink RX6 23 yX6_firstNoLetter, Cond.instanceMethod yX6_firstNoLetter, Cond.selects RX6 yX6_firstNoLetter yX6_firstNoLetter, Cond.code yX6_firstNoLetter cX6_firstNoLetter 2 (some .int), Cond.methodLink RX6 19 yX6_letterAt, Cond.instanceMethod yX6_letterAt, Cond.selects RX6 yX6_letterAt yX6_letterAt, Cond.code yX6_letterAt cX6_letterAt 2 (some .int), Cond.fieldLink RX6 9 "SyllableBook$Pad" "codes" "[I", Cond.methodLink RX7 80 yX3_record, Cond.instanceMethod yX3_record, Cond.selects RX3 yX3_record yX3_record, Cond.initialized RX3]
def wsX7_word_r2 : List Cond := [Cond.code yX3_record cX3_record 2 none, Cond.fieldLink RX3 18 "SyllableBook$History" "size" "I", Cond.fieldLink RX3 11 "SyllableBook$History" "states" "[LSyllableBook$Contents;", Cond.methodLink RX3 22 yX3_dropOldest, Cond.instanceMethod yX3_dropOldest, Cond.selects RX3 yX3_dropOldest yX3_dropOldest, Cond.code yX3_dropOldest cX3_dropOldest 3 none, Cond.methodLink RX3 25 yX2_copyFrom, Cond.instanceMethod yX2_copyFrom, Cond.selects RX2 yX2_copyFrom yX2_copyFrom, Cond.initialized RX2, Cond.code yX2_copyFrom cX2_copyFrom 2 none, Cond.fieldLink RX2 30 "SyllableBook$Contents" "pieces" "I", Cond.fieldLink RX2 9 "SyllableBook$Contents" "pieceText" "[I", Cond.methodLink RX2 34 arraycopyName, Cond.native arraycopyName, Cond.static arraycopyName, Cond.initialized "java/lang/System", Cond.fieldLink RX2 15 "SyllableBook$Contents" "pieceLetters" "[I", Cond.fieldLink RX2 18 "SyllableBook$Contents" "pieceWeight" "[I", Cond.fieldLink RX2 40 "SyllableBook$Contents" "words" "I", Cond.fieldLink RX2 21 "SyllableBook$Contents" "wordLetters" "[I", Cond.fieldLink RX2 24 "SyllableBook$Contents" "wordCount" "[I", Cond.fieldLink RX2 27 "SyllableBook$Contents" "letters" "[I"]
def wsX7_word_r3 : List Cond := [Cond.methodLink RX7 116 yX2_addWord, Cond.instanceMethod yX2_addWord, Cond.selects RX2 yX2_addWord yX2_addWord, Cond.code yX2_addWord cX2_addWord 4 none, Cond.fieldLink RX2 43 "SyllableBook$Pad" "length" "I", Cond.methodLink RX2 48 yX6_letterAt]
def wsX7_word : List Cond := .code yX7_word cX7_word 2 (some .int) :: ((wsX7_word_r1 ++ (wsX7_word_r2 ++ wsX7_word_r3)) ++ wsX70 ++ wsX20 ++ wsX60 ++ wsX30)
def wsX7_isWord : List Cond := .code yX7_isWord cX7_isWord 2 (some .boolean) :: ([.fieldLink RX7 10 "SyllableBook" "contents" "LSyllableBook$Contents;", .fieldLink RX7 113 "SyllableBook$Contents" "words" "I"] ++ wsX70 ++ wsX20)
def wsX7_recount_r1 : List Cond := [Cond.fieldLink RX7 30 "SyllableBook" "history" "LSyllableBook$History;", Cond.fieldLink RX7 10 "SyllableBook" "contents" "LSyllableBook$Contents;", Cond.fieldLink RX7 123 "SyllableBook$Contents" "wordCount" "[I", Cond.methodLink RX7 120 yX7_isWord, Cond.instanceMethod yX7_isWord, Cond.selects RX7 yX7_isWord yX7_isWord, Cond.initialized RX7, Cond.code yX7_isWord cX7_isWord 2 (some .boolean), Cond.fieldLink RX7 113 "SyllableBook$Contents" "words" "I", Cond.methodLink RX7 80 yX3_record, Cond.instanceMethod yX3_record, Cond.selects RX3 yX3_record yX3_record, Cond.initialized RX3, Cond.code yX3_record cX3_record 2 none, Cond.fieldLink RX3 18 "SyllableBook$History" "size" "I", Cond.fieldLink RX3 11 "SyllableBook$History" "states" "[LSyllableBook$Contents;", Cond.methodLink RX3 22 yX3_dropOldest, Cond.instanceMethod yX3_dropOldest, Cond.selects RX3 yX3_dropOldest yX3_dropOldest, Cond.code yX3_dropOldest cX3_dropOldest 3 none, Cond.methodLink RX3 25 yX2_copyFrom, Cond.instanceMethod yX2_copyFrom, Cond.selects RX2 yX2_copyFrom yX2_copyFrom, Cond.initialized RX2]
def wsX7_recount_r2 : List Cond := [Cond.code yX2_copyFrom cX2_copyFrom 2 none, Cond.fieldLink RX2 30 "SyllableBook$Contents" "pieces" "I", Cond.fieldLink RX2 9 "SyllableBook$Contents" "pieceText" "[I", Cond.methodLink RX2 34 arraycopyName, Cond.native arraycopyName, Cond.static arraycopyName, Cond.initialized "java/lang/System", Cond.fieldLink RX2 15 "SyllableBook$Contents" "pieceLetters" "[I", Cond.fieldLink RX2 18 "SyllableBook$Contents" "pieceWeight" "[I", Cond.fieldLink RX2 40 "SyllableBook$Contents" "words" "I", Cond.fieldLink RX2 21 "SyllableBook$Contents" "wordLetters" "[I", Cond.fieldLink RX2 24 "SyllableBook$Contents" "wordCount" "[I", Cond.fieldLink RX2 27 "SyllableBook$Contents" "letters" "[I"]
def wsX7_recount : List Cond := .code yX7_recount cX7_recount 4 (some .int) :: ((wsX7_recount_r1 ++ wsX7_recount_r2) ++ wsX70 ++ wsX20 ++ wsX30)
def wsX7_forget_r1 : List Cond := [Cond.fieldLink RX7 30 "SyllableBook" "history" "LSyllableBook$History;", Cond.fieldLink RX7 10 "SyllableBook" "contents" "LSyllableBook$Contents;", Cond.fieldLink RX7 113 "SyllableBook$Contents" "words" "I", Cond.methodLink RX7 120 yX7_isWord, Cond.instanceMethod yX7_isWord, Cond.selects RX7 yX7_isWord yX7_isWord, Cond.initialized RX7, Cond.code yX7_isWord cX7_isWord 2 (some .boolean), Cond.methodLink RX7 80 yX3_record, Cond.instanceMethod yX3_record, Cond.selects RX3 yX3_record yX3_record, Cond.initialized RX3, Cond.code yX3_record cX3_record 2 none, Cond.fieldLink RX3 18 "SyllableBook$History" "size" "I", Cond.fieldLink RX3 11 "SyllableBook$History" "states" "[LSyllableBook$Contents;", Cond.methodLink RX3 22 yX3_dropOldest, Cond.instanceMethod yX3_dropOldest, Cond.selects RX3 yX3_dropOldest yX3_dropOldest, Cond.code yX3_dropOldest cX3_dropOldest 3 none, Cond.methodLink RX3 25 yX2_copyFrom, Cond.instanceMethod yX2_copyFrom, Cond.selects RX2 yX2_copyFrom yX2_copyFrom, Cond.initialized RX2, Cond.code yX2_copyFrom cX2_copyFrom 2 none]
def wsX7_forget_r2 : List Cond := [Cond.fieldLink RX2 30 "SyllableBook$Contents" "pieces" "I", Cond.fieldLink RX2 9 "SyllableBook$Contents" "pieceText" "[I", Cond.methodLink RX2 34 arraycopyName, Cond.native arraycopyName, Cond.static arraycopyName, Cond.initialized "java/lang/System", Cond.fieldLink RX2 15 "SyllableBook$Contents" "pieceLetters" "[I", Cond.fieldLink RX2 18 "SyllableBook$Contents" "pieceWeight" "[I", Cond.fieldLink RX2 40 "SyllableBook$Contents" "words" "I", Cond.fieldLink RX2 21 "SyllableBook$Contents" "wordLetters" "[I", Cond.fieldLink RX2 24 "SyllableBook$Contents" "wordCount" "[I", Cond.fieldLink RX2 27 "SyllableBook$Contents" "letters" "[I", Cond.methodLink RX7 126 yX2_removeWord, Cond.instanceMethod yX2_removeWord, Cond.selects RX2 yX2_removeWord yX2_removeWord, Cond.code yX2_removeWord cX2_removeWord 3 none]
def wsX7_forget : List Cond := .code yX7_forget cX7_forget 2 (some .int) :: ((wsX7_forget_r1 ++ wsX7_forget_r2) ++ wsX70 ++ wsX20 ++ wsX30)
def wsX7_cutBest_r1 : List Cond := [Cond.fieldLink RX7 44 "SyllableBook" "lattice" "LSyllableBook$Lattice;", Cond.fieldLink RX7 51 "SyllableBook" "best" "LSyllableBook$BestCut;", Cond.methodLink RX7 201 yX4_read, Cond.instanceMethod yX4_read, Cond.selects RX4 yX4_read yX4_read, Cond.initialized RX4, Cond.code yX4_read cX4_read 7 none, Cond.fieldLink RX4 21 "SyllableBook$Contents" "wordLetters" "[I", Cond.fieldLink RX4 26 "SyllableBook$Lattice" "length" "I", Cond.fieldLink RX4 30 "SyllableBook$Contents" "pieceWeight" "[I", Cond.fieldLink RX4 18 "SyllableBook$Lattice" "weightOf" "[I", Cond.methodLink RX4 33 arraycopyName, Cond.native arraycopyName, Cond.static arraycopyName, Cond.initialized "java/lang/System", Cond.fieldLink RX4 9 "SyllableBook$Lattice" "text" "[I", Cond.fieldLink RX4 15 "SyllableBook$Lattice" "piece" "[I", Cond.methodLink RX4 39 yX4_mostLetters, Cond.instanceMethod yX4_mostLetters, Cond.selects RX4 yX4_mostLetters yX4_mostLetters, Cond.code yX4_mostLetters cX4_mostLetters 2 (some .int), Cond.methodLink RX4 53 Lib.Math.min.name, Cond.static Lib.Math.min.name, Cond.initialized "java/lang/Math"]
def wsX7_cutBest_r2 : List Cond := [Cond.code Lib.Math.min.name Lib.Math.min.code 2 (some .int), Cond.methodLink RX4 43 yX2_letterAt, Cond.instanceMethod yX2_letterAt, Cond.selects RX2 yX2_letterAt yX2_letterAt, Cond.initialized RX2, Cond.code yX2_letterAt cX2_letterAt 3 (some .int), Cond.fieldLink RX2 27 "SyllableBook$Contents" "letters" "[I", Cond.methodLink RX4 47 yX4_index, Cond.static yX4_index, Cond.code yX4_index cX4_index 2 (some .int), Cond.methodLink RX4 50 yX2_pieceWith, Cond.instanceMethod yX2_pieceWith, Cond.selects RX2 yX2_pieceWith yX2_pieceWith, Cond.code yX2_pieceWith cX2_pieceWith 3 (some .int), Cond.fieldLink RX2 30 "SyllableBook$Contents" "pieces" "I", Cond.fieldLink RX2 9 "SyllableBook$Contents" "pieceText" "[I", Cond.methodLink RX7 259 yX1_find, Cond.instanceMethod yX1_find, Cond.selects RX1 yX1_find yX1_find, Cond.initialized RX1, Cond.code yX1_find cX1_find 4 none, Cond.fieldLink RX1 9 "SyllableBook$BestCut" "restProduct" "[J", Cond.fieldLink RX1 31 "SyllableBook$Lattice" "length" "I", Cond.fieldLink RX1 15 "SyllableBook$BestCut" "restParts" "[I"]
def wsX7_cutBest_r3 : List Cond := [Cond.methodLink RX1 37 yX1_findFirst, Cond.instanceMethod yX1_findFirst, Cond.selects RX1 yX1_findFirst yX1_findFirst, Cond.code yX1_findFirst cX1_findFirst 10 none, Cond.fieldLink RX1 19 "SyllableBook$BestCut" "restFirst" "[I", Cond.methodLink RX1 45 yX4_mostLetters, Cond.methodLink RX1 49 yX4_weightAt, Cond.instanceMethod yX4_weightAt, Cond.selects RX4 yX4_weightAt yX4_weightAt, Cond.code yX4_weightAt cX4_weightAt 5 (some .int), Cond.methodLink RX4 58 yX4_pieceAt, Cond.instanceMethod yX4_pieceAt, Cond.selects RX4 yX4_pieceAt yX4_pieceAt, Cond.code yX4_pieceAt cX4_pieceAt 3 (some .int), Cond.methodLink RX1 41 yX1_layOut, Cond.instanceMethod yX1_layOut, Cond.selects RX1 yX1_layOut yX1_layOut, Cond.code yX1_layOut cX1_layOut 7 none, Cond.fieldLink RX1 53 "SyllableBook$BestCut" "parts" "I", Cond.fieldLink RX1 56 "SyllableBook$BestCut" "unseen" "I", Cond.fieldLink RX1 22 "SyllableBook$BestCut" "partPiece" "[I", Cond.fieldLink RX1 25 "SyllableBook$BestCut" "partPlace" "[I", Cond.fieldLink RX1 28 "SyllableBook$BestCut" "partLetters" "[I", Cond.methodLink RX1 59 yX4_pieceAt]
def wsX7_cutBest : List Cond := .code yX7_cutBest cX7_cutBest 3 none :: ((wsX7_cutBest_r1 ++ (wsX7_cutBest_r2 ++ wsX7_cutBest_r3)) ++ wsX70 ++ wsX20 ++ wsX40 ++ wsX10)
def wsX7_partWeight : List Cond := .code yX7_partWeight cX7_partWeight 3 (some .int) :: ([.fieldLink RX7 51 "SyllableBook" "best" "LSyllableBook$BestCut;", .fieldLink RX7 213 "SyllableBook$BestCut" "partPiece" "[I", .fieldLink RX7 10 "SyllableBook" "contents" "LSyllableBook$Contents;", .fieldLink RX7 103 "SyllableBook$Contents" "pieceWeight" "[I"] ++ wsX70 ++ wsX10 ++ wsX20)
def wsX7_findGrowing_r1 : List Cond := [Cond.fieldLink RX7 65 "SyllableBook" "neighbours" "LSyllableBook$Neighbours;", Cond.fieldLink RX7 268 "SyllableBook$Neighbours" "size" "I", Cond.fieldLink RX7 10 "SyllableBook" "contents" "LSyllableBook$Contents;", Cond.fieldLink RX7 113 "SyllableBook$Contents" "words" "I", Cond.fieldLink RX7 51 "SyllableBook" "best" "LSyllableBook$BestCut;", Cond.fieldLink RX7 180 "SyllableBook$BestCut" "parts" "I", Cond.fieldLink RX7 216 "SyllableBook$BestCut" "partPlace" "[I", Cond.fieldLink RX7 219 "SyllableBook$BestCut" "partLetters" "[I", Cond.fieldLink RX7 44 "SyllableBook" "lattice" "LSyllableBook$Lattice;", Cond.methodLink RX7 275 Lib.Math.min.name, Cond.static Lib.Math.min.name, Cond.initialized "java/lang/Math", Cond.code Lib.Math.min.name Lib.Math.min.code 2 (some .int), Cond.fieldLink RX7 123 "SyllableBook$Contents" "wordCount" "[I", Cond.methodLink RX7 173 yX7_cutBest, Cond.instanceMethod yX7_cutBest, Cond.selects RX7 yX7_cutBest yX7_cutBest, Cond.initialized RX7, Cond.code yX7_cutBest cX7_cutBest 3 none, Cond.methodLink RX7 201 yX4_read, Cond.instanceMethod yX4_read, Cond.selects RX4 yX4_read yX4_read, Cond.initialized RX4, Cond.code yX4_read cX4_read 7 none]
def wsX7_findGrowing_r2 : List Cond := [Cond.fieldLink RX4 21 "SyllableBook$Contents" "wordLetters" "[I", Cond.fieldLink RX4 26 "SyllableBook$Lattice" "length" "I", Cond.fieldLink RX4 30 "SyllableBook$Contents" "pieceWeight" "[I", Cond.fieldLink RX4 18 "SyllableBook$Lattice" "weightOf" "[I", Cond.methodLink RX4 33 arraycopyName, Cond.native arraycopyName, Cond.static arraycopyName, Cond.initialized "java/lang/System", Cond.fieldLink RX4 9 "SyllableBook$Lattice" "text" "[I", Cond.fieldLink RX4 15 "SyllableBook$Lattice" "piece" "[I", Cond.methodLink RX4 39 yX4_mostLetters, Cond.instanceMethod yX4_mostLetters, Cond.selects RX4 yX4_mostLetters yX4_mostLetters, Cond.code yX4_mostLetters cX4_mostLetters 2 (some .int), Cond.methodLink RX4 53 Lib.Math.min.name, Cond.methodLink RX4 43 yX2_letterAt, Cond.instanceMethod yX2_letterAt, Cond.selects RX2 yX2_letterAt yX2_letterAt, Cond.initialized RX2, Cond.code yX2_letterAt cX2_letterAt 3 (some .int), Cond.fieldLink RX2 27 "SyllableBook$Contents" "letters" "[I", Cond.methodLink RX4 47 yX4_index, Cond.static yX4_index, Cond.code yX4_index cX4_index 2 (some .int)]
def wsX7_findGrowing_r3 : List Cond := [Cond.methodLink RX4 50 yX2_pieceWith, Cond.instanceMethod yX2_pieceWith, Cond.selects RX2 yX2_pieceWith yX2_pieceWith, Cond.code yX2_pieceWith cX2_pieceWith 3 (some .int), Cond.fieldLink RX2 30 "SyllableBook$Contents" "pieces" "I", Cond.fieldLink RX2 9 "SyllableBook$Contents" "pieceText" "[I", Cond.methodLink RX7 259 yX1_find, Cond.instanceMethod yX1_find, Cond.selects RX1 yX1_find yX1_find, Cond.initialized RX1, Cond.code yX1_find cX1_find 4 none, Cond.fieldLink RX1 9 "SyllableBook$BestCut" "restProduct" "[J", Cond.fieldLink RX1 31 "SyllableBook$Lattice" "length" "I", Cond.fieldLink RX1 15 "SyllableBook$BestCut" "restParts" "[I", Cond.methodLink RX1 37 yX1_findFirst, Cond.instanceMethod yX1_findFirst, Cond.selects RX1 yX1_findFirst yX1_findFirst, Cond.code yX1_findFirst cX1_findFirst 10 none, Cond.fieldLink RX1 19 "SyllableBook$BestCut" "restFirst" "[I", Cond.methodLink RX1 45 yX4_mostLetters, Cond.methodLink RX1 49 yX4_weightAt, Cond.instanceMethod yX4_weightAt, Cond.selects RX4 yX4_weightAt yX4_weightAt, Cond.code yX4_weightAt cX4_weightAt 5 (some .int)]
def wsX7_findGrowing_r4 : List Cond := [Cond.methodLink RX4 58 yX4_pieceAt, Cond.instanceMethod yX4_pieceAt, Cond.selects RX4 yX4_pieceAt yX4_pieceAt, Cond.code yX4_pieceAt cX4_pieceAt 3 (some .int), Cond.methodLink RX1 41 yX1_layOut, Cond.instanceMethod yX1_layOut, Cond.selects RX1 yX1_layOut yX1_layOut, Cond.code yX1_layOut cX1_layOut 7 none, Cond.fieldLink RX1 53 "SyllableBook$BestCut" "parts" "I", Cond.fieldLink RX1 56 "SyllableBook$BestCut" "unseen" "I", Cond.fieldLink RX1 22 "SyllableBook$BestCut" "partPiece" "[I", Cond.fieldLink RX1 25 "SyllableBook$BestCut" "partPlace" "[I", Cond.fieldLink RX1 28 "SyllableBook$BestCut" "partLetters" "[I", Cond.methodLink RX1 59 yX4_pieceAt, Cond.methodLink RX7 269 yX4_pieceAt, Cond.methodLink RX7 272 yX7_partWeight, Cond.instanceMethod yX7_partWeight, Cond.selects RX7 yX7_partWeight yX7_partWeight, Cond.code yX7_partWeight cX7_partWeight 3 (some .int), Cond.fieldLink RX7 213 "SyllableBook$BestCut" "partPiece" "[I", Cond.fieldLink RX7 103 "SyllableBook$Contents" "pieceWeight" "[I", Cond.methodLink RX7 278 yX4_textAt, Cond.instanceMethod yX4_textAt, Cond.selects RX4 yX4_textAt yX4_textAt]
def wsX7_findGrowing_r5 : List Cond := [Cond.code yX4_textAt cX4_textAt 3 (some .int), Cond.methodLink RX7 281 yX5_add, Cond.instanceMethod yX5_add, Cond.selects RX5 yX5_add yX5_add, Cond.initialized RX5, Cond.code yX5_add cX5_add 6 none, Cond.fieldLink RX5 24 "SyllableBook$Neighbours" "size" "I", Cond.fieldLink RX5 11 "SyllableBook$Neighbours" "text" "[I", Cond.fieldLink RX5 21 "SyllableBook$Neighbours" "times" "[I", Cond.fieldLink RX5 15 "SyllableBook$Neighbours" "letters" "[I", Cond.fieldLink RX5 18 "SyllableBook$Neighbours" "weight" "[I", Cond.methodLink RX7 285 yX5_mostFrequent, Cond.instanceMethod yX5_mostFrequent, Cond.selects RX5 yX5_mostFrequent yX5_mostFrequent, Cond.code yX5_mostFrequent cX5_mostFrequent 3 (some .int)]
def wsX7_findGrowing : List Cond := .code yX7_findGrowing cX7_findGrowing 6 (some .int) :: ((wsX7_findGrowing_r1 ++ (wsX7_findGrowing_r2 ++ (wsX7_findGrowing_r3 ++ (wsX7_findGrowing_r4 ++ wsX7_findGrowing_r5)))) ++ wsX70 ++ wsX50 ++ wsX20 ++ wsX10 ++ wsX40)
def wsX7_grow_r1 : List Cond := [Cond.fieldLink RX7 10 "SyllableBook" "contents" "LSyllableBook$Contents;", Cond.fieldLink RX7 96 "SyllableBook$Contents" "pieces" "I", Cond.fieldLink RX7 30 "SyllableBook" "history" "LSyllableBook$History;", Cond.fieldLink RX7 65 "SyllableBook" "neighbours" "LSyllableBook$Neighbours;", Cond.fieldLink RX7 132 "SyllableBook$Neighbours" "text" "[I", Cond.fieldLink RX7 134 "SyllableBook$Neighbours" "letters" "[I", Cond.fieldLink RX7 137 "SyllableBook$Neighbours" "weight" "[I", Cond.methodLink RX7 129 yX7_findGrowing, Cond.instanceMethod yX7_findGrowing, Cond.selects RX7 yX7_findGrowing yX7_findGrowing, Cond.initialized RX7, Cond.code yX7_findGrowing cX7_findGrowing 6 (some .int), Cond.fieldLink RX7 268 "SyllableBook$Neighbours" "size" "I", Cond.fieldLink RX7 113 "SyllableBook$Contents" "words" "I", Cond.fieldLink RX7 51 "SyllableBook" "best" "LSyllableBook$BestCut;", Cond.fieldLink RX7 180 "SyllableBook$BestCut" "parts" "I", Cond.fieldLink RX7 216 "SyllableBook$BestCut" "partPlace" "[I", Cond.fieldLink RX7 219 "SyllableBook$BestCut" "partLetters" "[I", Cond.fieldLink RX7 44 "SyllableBook" "lattice" "LSyllableBook$Lattice;", Cond.methodLink RX7 275 Lib.Math.min.name, Cond.static Lib.Math.min.name, Cond.initialized "java/lang/Math", Cond.code Lib.Math.min.name Lib.Math.min.code 2 (some .int), Cond.fieldLink RX7 123 "SyllableBook$Contents" "wordCount" "[I"]
def wsX7_grow_r2 : List Cond := [Cond.methodLink RX7 173 yX7_cutBest, Cond.instanceMethod yX7_cutBest, Cond.selects RX7 yX7_cutBest yX7_cutBest, Cond.code yX7_cutBest cX7_cutBest 3 none, Cond.methodLink RX7 201 yX4_read, Cond.instanceMethod yX4_read, Cond.selects RX4 yX4_read yX4_read, Cond.initialized RX4, Cond.code yX4_read cX4_read 7 none, Cond.fieldLink RX4 21 "SyllableBook$Contents" "wordLetters" "[I", Cond.fieldLink RX4 26 "SyllableBook$Lattice" "length" "I", Cond.fieldLink RX4 30 "SyllableBook$Contents" "pieceWeight" "[I", Cond.fieldLink RX4 18 "SyllableBook$Lattice" "weightOf" "[I", Cond.methodLink RX4 33 arraycopyName, Cond.native arraycopyName, Cond.static arraycopyName, Cond.initialized "java/lang/System", Cond.fieldLink RX4 9 "SyllableBook$Lattice" "text" "[I", Cond.fieldLink RX4 15 "SyllableBook$Lattice" "piece" "[I", Cond.methodLink RX4 39 yX4_mostLetters, Cond.instanceMethod yX4_mostLetters, Cond.selects RX4 yX4_mostLetters yX4_mostLetters, Cond.code yX4_mostLetters cX4_mostLetters 2 (some .int), Cond.methodLink RX4 53 Lib.Math.min.name]
def wsX7_grow_r3 : List Cond := [Cond.methodLink RX4 43 yX2_letterAt, Cond.instanceMethod yX2_letterAt, Cond.selects RX2 yX2_letterAt yX2_letterAt, Cond.initialized RX2, Cond.code yX2_letterAt cX2_letterAt 3 (some .int), Cond.fieldLink RX2 27 "SyllableBook$Contents" "letters" "[I", Cond.methodLink RX4 47 yX4_index, Cond.static yX4_index, Cond.code yX4_index cX4_index 2 (some .int), Cond.methodLink RX4 50 yX2_pieceWith, Cond.instanceMethod yX2_pieceWith, Cond.selects RX2 yX2_pieceWith yX2_pieceWith, Cond.code yX2_pieceWith cX2_pieceWith 3 (some .int), Cond.fieldLink RX2 30 "SyllableBook$Contents" "pieces" "I", Cond.fieldLink RX2 9 "SyllableBook$Contents" "pieceText" "[I", Cond.methodLink RX7 259 yX1_find, Cond.instanceMethod yX1_find, Cond.selects RX1 yX1_find yX1_find, Cond.initialized RX1, Cond.code yX1_find cX1_find 4 none, Cond.fieldLink RX1 9 "SyllableBook$BestCut" "restProduct" "[J", Cond.fieldLink RX1 31 "SyllableBook$Lattice" "length" "I", Cond.fieldLink RX1 15 "SyllableBook$BestCut" "restParts" "[I", Cond.methodLink RX1 37 yX1_findFirst]
def wsX7_grow_r4 : List Cond := [Cond.instanceMethod yX1_findFirst, Cond.selects RX1 yX1_findFirst yX1_findFirst, Cond.code yX1_findFirst cX1_findFirst 10 none, Cond.fieldLink RX1 19 "SyllableBook$BestCut" "restFirst" "[I", Cond.methodLink RX1 45 yX4_mostLetters, Cond.methodLink RX1 49 yX4_weightAt, Cond.instanceMethod yX4_weightAt, Cond.selects RX4 yX4_weightAt yX4_weightAt, Cond.code yX4_weightAt cX4_weightAt 5 (some .int), Cond.methodLink RX4 58 yX4_pieceAt, Cond.instanceMethod yX4_pieceAt, Cond.selects RX4 yX4_pieceAt yX4_pieceAt, Cond.code yX4_pieceAt cX4_pieceAt 3 (some .int), Cond.methodLink RX1 41 yX1_layOut, Cond.instanceMethod yX1_layOut, Cond.selects RX1 yX1_layOut yX1_layOut, Cond.code yX1_layOut cX1_layOut 7 none, Cond.fieldLink RX1 53 "SyllableBook$BestCut" "parts" "I", Cond.fieldLink RX1 56 "SyllableBook$BestCut" "unseen" "I", Cond.fieldLink RX1 22 "SyllableBook$BestCut" "partPiece" "[I", Cond.fieldLink RX1 25 "SyllableBook$BestCut" "partPlace" "[I", Cond.fieldLink RX1 28 "SyllableBook$BestCut" "partLetters" "[I", Cond.methodLink RX1 59 yX4_pieceAt, Cond.methodLink RX7 269 yX4_pieceAt]
def wsX7_grow_r5 : List Cond := [Cond.methodLink RX7 272 yX7_partWeight, Cond.instanceMethod yX7_partWeight, Cond.selects RX7 yX7_partWeight yX7_partWeight, Cond.code yX7_partWeight cX7_partWeight 3 (some .int), Cond.fieldLink RX7 213 "SyllableBook$BestCut" "partPiece" "[I", Cond.fieldLink RX7 103 "SyllableBook$Contents" "pieceWeight" "[I", Cond.methodLink RX7 278 yX4_textAt, Cond.instanceMethod yX4_textAt, Cond.selects RX4 yX4_textAt yX4_textAt, Cond.code yX4_textAt cX4_textAt 3 (some .int), Cond.methodLink RX7 281 yX5_add, Cond.instanceMethod yX5_add, Cond.selects RX5 yX5_add yX5_add, Cond.initialized RX5, Cond.code yX5_add cX5_add 6 none, Cond.fieldLink RX5 24 "SyllableBook$Neighbours" "size" "I", Cond.fieldLink RX5 11 "SyllableBook$Neighbours" "text" "[I", Cond.fieldLink RX5 21 "SyllableBook$Neighbours" "times" "[I", Cond.fieldLink RX5 15 "SyllableBook$Neighbours" "letters" "[I", Cond.fieldLink RX5 18 "SyllableBook$Neighbours" "weight" "[I", Cond.methodLink RX7 285 yX5_mostFrequent, Cond.instanceMethod yX5_mostFrequent, Cond.selects RX5 yX5_mostFrequent yX5_mostFrequent, Cond.code yX5_mostFrequent cX5_mostFrequent 3 (some .int)]
def wsX7_grow_r6 : List Cond := [Cond.methodLink RX7 80 yX3_record, Cond.instanceMethod yX3_record, Cond.selects RX3 yX3_record yX3_record, Cond.initialized RX3, Cond.code yX3_record cX3_record 2 none, Cond.fieldLink RX3 18 "SyllableBook$History" "size" "I", Cond.fieldLink RX3 11 "SyllableBook$History" "states" "[LSyllableBook$Contents;", Cond.methodLink RX3 22 yX3_dropOldest, Cond.instanceMethod yX3_dropOldest, Cond.selects RX3 yX3_dropOldest yX3_dropOldest, Cond.code yX3_dropOldest cX3_dropOldest 3 none, Cond.methodLink RX3 25 yX2_copyFrom, Cond.instanceMethod yX2_copyFrom, Cond.selects RX2 yX2_copyFrom yX2_copyFrom, Cond.code yX2_copyFrom cX2_copyFrom 2 none, Cond.methodLink RX2 34 arraycopyName, Cond.fieldLink RX2 15 "SyllableBook$Contents" "pieceLetters" "[I", Cond.fieldLink RX2 18 "SyllableBook$Contents" "pieceWeight" "[I", Cond.fieldLink RX2 40 "SyllableBook$Contents" "words" "I", Cond.fieldLink RX2 21 "SyllableBook$Contents" "wordLetters" "[I", Cond.fieldLink RX2 24 "SyllableBook$Contents" "wordCount" "[I", Cond.methodLink RX7 92 yX2_addPiece, Cond.instanceMethod yX2_addPiece, Cond.selects RX2 yX2_addPiece yX2_addPiece]
def wsX7_grow_r7 : List Cond := [Cond.code yX2_addPiece cX2_addPiece 4 none]
def wsX7_grow : List Cond := .code yX7_grow cX7_grow 2 (some .int) :: ((wsX7_grow_r1 ++ (wsX7_grow_r2 ++ (wsX7_grow_r3 ++ (wsX7_grow_r4 ++ (wsX7_grow_r5 ++ (wsX7_grow_r6 ++ wsX7_grow_r7)))))) ++ wsX70 ++ wsX20 ++ wsX50 ++ wsX10 ++ wsX40 ++ wsX30)
def wsJ7_fill_53178 : List Cond := .code yJ7_fill_53178 cJ7_fill_53178 4 none :: ([])
def wsX7_bearAll_r1 : List Cond := [Cond.fieldLink RX7 69 "SyllableBook" "borne" "[I", Cond.fieldLink RX7 10 "SyllableBook" "contents" "LSyllableBook$Contents;", Cond.fieldLink RX7 113 "SyllableBook$Contents" "words" "I", Cond.fieldLink RX7 44 "SyllableBook" "lattice" "LSyllableBook$Lattice;", Cond.fieldLink RX7 58 "SyllableBook" "all" "LSyllableBook$AllCuts;", Cond.fieldLink RX7 96 "SyllableBook$Contents" "pieces" "I", Cond.fieldLink RX7 123 "SyllableBook$Contents" "wordCount" "[I", Cond.methodLink RX7 262 yJ7_fill_53178, Cond.static yJ7_fill_53178, Cond.initialized RJ7, Cond.code yJ7_fill_53178 cJ7_fill_53178 4 none, Cond.methodLink RX7 201 yX4_read, Cond.instanceMethod yX4_read, Cond.selects RX4 yX4_read yX4_read, Cond.initialized RX4, Cond.code yX4_read cX4_read 7 none, Cond.fieldLink RX4 21 "SyllableBook$Contents" "wordLetters" "[I", Cond.fieldLink RX4 26 "SyllableBook$Lattice" "length" "I", Cond.fieldLink RX4 30 "SyllableBook$Contents" "pieceWeight" "[I", Cond.fieldLink RX4 18 "SyllableBook$Lattice" "weightOf" "[I", Cond.methodLink RX4 33 arraycopyName, Cond.native arraycopyName, Cond.static arraycopyName, Cond.initialized "java/lang/System"]
def wsX7_bearAll_r2 : List Cond := [Cond.fieldLink RX4 9 "SyllableBook$Lattice" "text" "[I", Cond.fieldLink RX4 15 "SyllableBook$Lattice" "piece" "[I", Cond.methodLink RX4 39 yX4_mostLetters, Cond.instanceMethod yX4_mostLetters, Cond.selects RX4 yX4_mostLetters yX4_mostLetters, Cond.code yX4_mostLetters cX4_mostLetters 2 (some .int), Cond.methodLink RX4 53 Lib.Math.min.name, Cond.static Lib.Math.min.name, Cond.initialized "java/lang/Math", Cond.code Lib.Math.min.name Lib.Math.min.code 2 (some .int), Cond.methodLink RX4 43 yX2_letterAt, Cond.instanceMethod yX2_letterAt, Cond.selects RX2 yX2_letterAt yX2_letterAt, Cond.initialized RX2, Cond.code yX2_letterAt cX2_letterAt 3 (some .int), Cond.fieldLink RX2 27 "SyllableBook$Contents" "letters" "[I", Cond.methodLink RX4 47 yX4_index, Cond.static yX4_index, Cond.code yX4_index cX4_index 2 (some .int), Cond.methodLink RX4 50 yX2_pieceWith, Cond.instanceMethod yX2_pieceWith, Cond.selects RX2 yX2_pieceWith yX2_pieceWith, Cond.code yX2_pieceWith cX2_pieceWith 3 (some .int), Cond.fieldLink RX2 30 "SyllableBook$Contents" "pieces" "I"]
def wsX7_bearAll_r3 : List Cond := [Cond.fieldLink RX2 9 "SyllableBook$Contents" "pieceText" "[I", Cond.methodLink RX7 189 yX0_find, Cond.instanceMethod yX0_find, Cond.selects RX0 yX0_find yX0_find, Cond.initialized RX0, Cond.code yX0_find cX0_find 5 none, Cond.fieldLink RX0 9 "SyllableBook$AllCuts" "before" "[J", Cond.fieldLink RX0 28 "SyllableBook$Lattice" "length" "I", Cond.fieldLink RX0 15 "SyllableBook$AllCuts" "behind" "[J", Cond.fieldLink RX0 18 "SyllableBook$AllCuts" "cutsBehind" "[I", Cond.methodLink RX0 22 yJ7_fill_d0a16, Cond.static yJ7_fill_d0a16, Cond.code yJ7_fill_d0a16 cJ7_fill_d0a16 5 none, Cond.methodLink RX0 34 yX4_mostLetters, Cond.methodLink RX0 38 yX4_weightAt, Cond.instanceMethod yX4_weightAt, Cond.selects RX4 yX4_weightAt yX4_weightAt, Cond.code yX4_weightAt cX4_weightAt 5 (some .int), Cond.methodLink RX4 58 yX4_pieceAt, Cond.instanceMethod yX4_pieceAt, Cond.selects RX4 yX4_pieceAt yX4_pieceAt, Cond.code yX4_pieceAt cX4_pieceAt 3 (some .int), Cond.methodLink RX0 42 yX0_addBehind, Cond.instanceMethod yX0_addBehind]
def wsX7_bearAll_r4 : List Cond := [Cond.selects RX0 yX0_addBehind yX0_addBehind, Cond.code yX0_addBehind cX0_addBehind 6 none, Cond.methodLink RX7 222 yX0_shareOf, Cond.instanceMethod yX0_shareOf, Cond.selects RX0 yX0_shareOf yX0_shareOf, Cond.code yX0_shareOf cX0_shareOf 9 (some .int), Cond.constantLong RX0 54 (1000), Cond.methodLink RX0 46 yX4_pieceAt, Cond.methodLink RX0 50 yX0_total, Cond.instanceMethod yX0_total, Cond.selects RX0 yX0_total yX0_total, Cond.code yX0_total cX0_total 1 (some .long)]
def wsX7_bearAll : List Cond := .code yX7_bearAll cX7_bearAll 3 none :: ((wsX7_bearAll_r1 ++ (wsX7_bearAll_r2 ++ (wsX7_bearAll_r3 ++ wsX7_bearAll_r4))) ++ wsX70 ++ wsX20 ++ wsX40 ++ wsX00)
def wsX7_tune_r1 : List Cond := [Cond.fieldLink RX7 30 "SyllableBook" "history" "LSyllableBook$History;", Cond.fieldLink RX7 10 "SyllableBook" "contents" "LSyllableBook$Contents;", Cond.fieldLink RX7 96 "SyllableBook$Contents" "pieces" "I", Cond.fieldLink RX7 69 "SyllableBook" "borne" "[I", Cond.methodLink RX7 143 Lib.Math.max.name, Cond.static Lib.Math.max.name, Cond.initialized "java/lang/Math", Cond.code Lib.Math.max.name Lib.Math.max.code 2 (some .int), Cond.fieldLink RX7 103 "SyllableBook$Contents" "pieceWeight" "[I", Cond.methodLink RX7 80 yX3_record, Cond.instanceMethod yX3_record, Cond.selects RX3 yX3_record yX3_record, Cond.initialized RX3, Cond.code yX3_record cX3_record 2 none, Cond.fieldLink RX3 18 "SyllableBook$History" "size" "I", Cond.fieldLink RX3 11 "SyllableBook$History" "states" "[LSyllableBook$Contents;", Cond.methodLink RX3 22 yX3_dropOldest, Cond.instanceMethod yX3_dropOldest, Cond.selects RX3 yX3_dropOldest yX3_dropOldest, Cond.code yX3_dropOldest cX3_dropOldest 3 none, Cond.methodLink RX3 25 yX2_copyFrom, Cond.instanceMethod yX2_copyFrom, Cond.selects RX2 yX2_copyFrom yX2_copyFrom, Cond.initialized RX2]
def wsX7_tune_r2 : List Cond := [Cond.code yX2_copyFrom cX2_copyFrom 2 none, Cond.fieldLink RX2 30 "SyllableBook$Contents" "pieces" "I", Cond.fieldLink RX2 9 "SyllableBook$Contents" "pieceText" "[I", Cond.methodLink RX2 34 arraycopyName, Cond.native arraycopyName, Cond.static arraycopyName, Cond.initialized "java/lang/System", Cond.fieldLink RX2 15 "SyllableBook$Contents" "pieceLetters" "[I", Cond.fieldLink RX2 18 "SyllableBook$Contents" "pieceWeight" "[I", Cond.fieldLink RX2 40 "SyllableBook$Contents" "words" "I", Cond.fieldLink RX2 21 "SyllableBook$Contents" "wordLetters" "[I", Cond.fieldLink RX2 24 "SyllableBook$Contents" "wordCount" "[I", Cond.fieldLink RX2 27 "SyllableBook$Contents" "letters" "[I", Cond.methodLink RX7 140 yX7_bearAll, Cond.instanceMethod yX7_bearAll, Cond.selects RX7 yX7_bearAll yX7_bearAll, Cond.initialized RX7, Cond.code yX7_bearAll cX7_bearAll 3 none, Cond.fieldLink RX7 113 "SyllableBook$Contents" "words" "I", Cond.fieldLink RX7 44 "SyllableBook" "lattice" "LSyllableBook$Lattice;", Cond.fieldLink RX7 58 "SyllableBook" "all" "LSyllableBook$AllCuts;", Cond.fieldLink RX7 123 "SyllableBook$Contents" "wordCount" "[I", Cond.methodLink RX7 262 yJ7_fill_53178, Cond.static yJ7_fill_53178]
def wsX7_tune_r3 : List Cond := [Cond.initialized RJ7, Cond.code yJ7_fill_53178 cJ7_fill_53178 4 none, Cond.methodLink RX7 201 yX4_read, Cond.instanceMethod yX4_read, Cond.selects RX4 yX4_read yX4_read, Cond.initialized RX4, Cond.code yX4_read cX4_read 7 none, Cond.fieldLink RX4 21 "SyllableBook$Contents" "wordLetters" "[I", Cond.fieldLink RX4 26 "SyllableBook$Lattice" "length" "I", Cond.fieldLink RX4 30 "SyllableBook$Contents" "pieceWeight" "[I", Cond.fieldLink RX4 18 "SyllableBook$Lattice" "weightOf" "[I", Cond.methodLink RX4 33 arraycopyName, Cond.fieldLink RX4 9 "SyllableBook$Lattice" "text" "[I", Cond.fieldLink RX4 15 "SyllableBook$Lattice" "piece" "[I", Cond.methodLink RX4 39 yX4_mostLetters, Cond.instanceMethod yX4_mostLetters, Cond.selects RX4 yX4_mostLetters yX4_mostLetters, Cond.code yX4_mostLetters cX4_mostLetters 2 (some .int), Cond.methodLink RX4 53 Lib.Math.min.name, Cond.static Lib.Math.min.name, Cond.code Lib.Math.min.name Lib.Math.min.code 2 (some .int), Cond.methodLink RX4 43 yX2_letterAt, Cond.instanceMethod yX2_letterAt, Cond.selects RX2 yX2_letterAt yX2_letterAt]
def wsX7_tune_r4 : List Cond := [Cond.code yX2_letterAt cX2_letterAt 3 (some .int), Cond.methodLink RX4 47 yX4_index, Cond.static yX4_index, Cond.code yX4_index cX4_index 2 (some .int), Cond.methodLink RX4 50 yX2_pieceWith, Cond.instanceMethod yX2_pieceWith, Cond.selects RX2 yX2_pieceWith yX2_pieceWith, Cond.code yX2_pieceWith cX2_pieceWith 3 (some .int), Cond.methodLink RX7 189 yX0_find, Cond.instanceMethod yX0_find, Cond.selects RX0 yX0_find yX0_find, Cond.initialized RX0, Cond.code yX0_find cX0_find 5 none, Cond.fieldLink RX0 9 "SyllableBook$AllCuts" "before" "[J", Cond.fieldLink RX0 28 "SyllableBook$Lattice" "length" "I", Cond.fieldLink RX0 15 "SyllableBook$AllCuts" "behind" "[J", Cond.fieldLink RX0 18 "SyllableBook$AllCuts" "cutsBehind" "[I", Cond.methodLink RX0 22 yJ7_fill_d0a16, Cond.static yJ7_fill_d0a16, Cond.code yJ7_fill_d0a16 cJ7_fill_d0a16 5 none, Cond.methodLink RX0 34 yX4_mostLetters, Cond.methodLink RX0 38 yX4_weightAt, Cond.instanceMethod yX4_weightAt, Cond.selects RX4 yX4_weightAt yX4_weightAt]
def wsX7_tune_r5 : List Cond := [Cond.code yX4_weightAt cX4_weightAt 5 (some .int), Cond.methodLink RX4 58 yX4_pieceAt, Cond.instanceMethod yX4_pieceAt, Cond.selects RX4 yX4_pieceAt yX4_pieceAt, Cond.code yX4_pieceAt cX4_pieceAt 3 (some .int), Cond.methodLink RX0 42 yX0_addBehind, Cond.instanceMethod yX0_addBehind, Cond.selects RX0 yX0_addBehind yX0_addBehind, Cond.code yX0_addBehind cX0_addBehind 6 none, Cond.methodLink RX7 222 yX0_shareOf, Cond.instanceMethod yX0_shareOf, Cond.selects RX0 yX0_shareOf yX0_shareOf, Cond.code yX0_shareOf cX0_shareOf 9 (some .int), Cond.constantLong RX0 54 (1000), Cond.methodLink RX0 46 yX4_pieceAt, Cond.methodLink RX0 50 yX0_total, Cond.instanceMethod yX0_total, Cond.selects RX0 yX0_total yX0_total, Cond.code yX0_total cX0_total 1 (some .long)]
def wsX7_tune : List Cond := .code yX7_tune cX7_tune 5 (some .int) :: ((wsX7_tune_r1 ++ (wsX7_tune_r2 ++ (wsX7_tune_r3 ++ (wsX7_tune_r4 ++ wsX7_tune_r5)))) ++ wsX70 ++ wsX20 ++ wsX30 ++ wsX40 ++ wsX00)
def wsX7_loseEach_r1 : List Cond := [Cond.fieldLink RX7 73 "SyllableBook" "costWithout" "[I", Cond.fieldLink RX7 10 "SyllableBook" "contents" "LSyllableBook$Contents;", Cond.fieldLink RX7 113 "SyllableBook$Contents" "words" "I", Cond.fieldLink RX7 44 "SyllableBook" "lattice" "LSyllableBook$Lattice;", Cond.fieldLink RX7 96 "SyllableBook$Contents" "pieces" "I", Cond.fieldLink RX7 51 "SyllableBook" "best" "LSyllableBook$BestCut;", Cond.fieldLink RX7 123 "SyllableBook$Contents" "wordCount" "[I", Cond.methodLink RX7 262 yJ7_fill_53178, Cond.static yJ7_fill_53178, Cond.initialized RJ7, Cond.code yJ7_fill_53178 cJ7_fill_53178 4 none, Cond.methodLink RX7 201 yX4_read, Cond.instanceMethod yX4_read, Cond.selects RX4 yX4_read yX4_read, Cond.initialized RX4, Cond.code yX4_read cX4_read 7 none, Cond.fieldLink RX4 21 "SyllableBook$Contents" "wordLetters" "[I", Cond.fieldLink RX4 26 "SyllableBook$Lattice" "length" "I", Cond.fieldLink RX4 30 "SyllableBook$Contents" "pieceWeight" "[I", Cond.fieldLink RX4 18 "SyllableBook$Lattice" "weightOf" "[I", Cond.methodLink RX4 33 arraycopyName, Cond.native arraycopyName, Cond.static arraycopyName, Cond.initialized "java/lang/System"]
def wsX7_loseEach_r2 : List Cond := [Cond.fieldLink RX4 9 "SyllableBook$Lattice" "text" "[I", Cond.fieldLink RX4 15 "SyllableBook$Lattice" "piece" "[I", Cond.methodLink RX4 39 yX4_mostLetters, Cond.instanceMethod yX4_mostLetters, Cond.selects RX4 yX4_mostLetters yX4_mostLetters, Cond.code yX4_mostLetters cX4_mostLetters 2 (some .int), Cond.methodLink RX4 53 Lib.Math.min.name, Cond.static Lib.Math.min.name, Cond.initialized "java/lang/Math", Cond.code Lib.Math.min.name Lib.Math.min.code 2 (some .int), Cond.methodLink RX4 43 yX2_letterAt, Cond.instanceMethod yX2_letterAt, Cond.selects RX2 yX2_letterAt yX2_letterAt, Cond.initialized RX2, Cond.code yX2_letterAt cX2_letterAt 3 (some .int), Cond.fieldLink RX2 27 "SyllableBook$Contents" "letters" "[I", Cond.methodLink RX4 47 yX4_index, Cond.static yX4_index, Cond.code yX4_index cX4_index 2 (some .int), Cond.methodLink RX4 50 yX2_pieceWith, Cond.instanceMethod yX2_pieceWith, Cond.selects RX2 yX2_pieceWith yX2_pieceWith, Cond.code yX2_pieceWith cX2_pieceWith 3 (some .int), Cond.fieldLink RX2 30 "SyllableBook$Contents" "pieces" "I"]
def wsX7_loseEach_r3 : List Cond := [Cond.fieldLink RX2 9 "SyllableBook$Contents" "pieceText" "[I", Cond.methodLink RX7 259 yX1_find, Cond.instanceMethod yX1_find, Cond.selects RX1 yX1_find yX1_find, Cond.initialized RX1, Cond.code yX1_find cX1_find 4 none, Cond.fieldLink RX1 9 "SyllableBook$BestCut" "restProduct" "[J", Cond.fieldLink RX1 31 "SyllableBook$Lattice" "length" "I", Cond.fieldLink RX1 15 "SyllableBook$BestCut" "restParts" "[I", Cond.methodLink RX1 37 yX1_findFirst, Cond.instanceMethod yX1_findFirst, Cond.selects RX1 yX1_findFirst yX1_findFirst, Cond.code yX1_findFirst cX1_findFirst 10 none, Cond.fieldLink RX1 19 "SyllableBook$BestCut" "restFirst" "[I", Cond.methodLink RX1 45 yX4_mostLetters, Cond.methodLink RX1 49 yX4_weightAt, Cond.instanceMethod yX4_weightAt, Cond.selects RX4 yX4_weightAt yX4_weightAt, Cond.code yX4_weightAt cX4_weightAt 5 (some .int), Cond.methodLink RX4 58 yX4_pieceAt, Cond.instanceMethod yX4_pieceAt, Cond.selects RX4 yX4_pieceAt yX4_pieceAt, Cond.code yX4_pieceAt cX4_pieceAt 3 (some .int), Cond.methodLink RX1 41 yX1_layOut]
def wsX7_loseEach_r4 : List Cond := [Cond.instanceMethod yX1_layOut, Cond.selects RX1 yX1_layOut yX1_layOut, Cond.code yX1_layOut cX1_layOut 7 none, Cond.fieldLink RX1 53 "SyllableBook$BestCut" "parts" "I", Cond.fieldLink RX1 56 "SyllableBook$BestCut" "unseen" "I", Cond.fieldLink RX1 22 "SyllableBook$BestCut" "partPiece" "[I", Cond.fieldLink RX1 25 "SyllableBook$BestCut" "partPlace" "[I", Cond.fieldLink RX1 28 "SyllableBook$BestCut" "partLetters" "[I", Cond.methodLink RX1 59 yX4_pieceAt, Cond.methodLink RX7 186 yX1_cost, Cond.instanceMethod yX1_cost, Cond.selects RX1 yX1_cost yX1_cost, Cond.code yX1_cost cX1_cost 1 (some .int)]
def wsX7_loseEach : List Cond := .code yX7_loseEach cX7_loseEach 3 none :: ((wsX7_loseEach_r1 ++ (wsX7_loseEach_r2 ++ (wsX7_loseEach_r3 ++ wsX7_loseEach_r4))) ++ wsX70 ++ wsX20 ++ wsX40 ++ wsX10)
def wsX7_findLeast_r1 : List Cond := [Cond.fieldLink RX7 10 "SyllableBook" "contents" "LSyllableBook$Contents;", Cond.fieldLink RX7 96 "SyllableBook$Contents" "pieces" "I", Cond.fieldLink RX7 73 "SyllableBook" "costWithout" "[I", Cond.fieldLink RX7 103 "SyllableBook$Contents" "pieceWeight" "[I", Cond.methodLink RX7 165 yX7_loseEach, Cond.instanceMethod yX7_loseEach, Cond.selects RX7 yX7_loseEach yX7_loseEach, Cond.initialized RX7, Cond.code yX7_loseEach cX7_loseEach 3 none, Cond.fieldLink RX7 113 "SyllableBook$Contents" "words" "I", Cond.fieldLink RX7 44 "SyllableBook" "lattice" "LSyllableBook$Lattice;", Cond.fieldLink RX7 51 "SyllableBook" "best" "LSyllableBook$BestCut;", Cond.fieldLink RX7 123 "SyllableBook$Contents" "wordCount" "[I", Cond.methodLink RX7 262 yJ7_fill_53178, Cond.static yJ7_fill_53178, Cond.initialized RJ7, Cond.code yJ7_fill_53178 cJ7_fill_53178 4 none, Cond.methodLink RX7 201 yX4_read, Cond.instanceMethod yX4_read, Cond.selects RX4 yX4_read yX4_read, Cond.initialized RX4, Cond.code yX4_read cX4_read 7 none, Cond.fieldLink RX4 21 "SyllableBook$Contents" "wordLetters" "[I", Cond.fieldLink RX4 26 "SyllableBook$Lattice" "length" "I"]
def wsX7_findLeast_r2 : List Cond := [Cond.fieldLink RX4 30 "SyllableBook$Contents" "pieceWeight" "[I", Cond.fieldLink RX4 18 "SyllableBook$Lattice" "weightOf" "[I", Cond.methodLink RX4 33 arraycopyName, Cond.native arraycopyName, Cond.static arraycopyName, Cond.initialized "java/lang/System", Cond.fieldLink RX4 9 "SyllableBook$Lattice" "text" "[I", Cond.fieldLink RX4 15 "SyllableBook$Lattice" "piece" "[I", Cond.methodLink RX4 39 yX4_mostLetters, Cond.instanceMethod yX4_mostLetters, Cond.selects RX4 yX4_mostLetters yX4_mostLetters, Cond.code yX4_mostLetters cX4_mostLetters 2 (some .int), Cond.methodLink RX4 53 Lib.Math.min.name, Cond.static Lib.Math.min.name, Cond.initialized "java/lang/Math", Cond.code Lib.Math.min.name Lib.Math.min.code 2 (some .int), Cond.methodLink RX4 43 yX2_letterAt, Cond.instanceMethod yX2_letterAt, Cond.selects RX2 yX2_letterAt yX2_letterAt, Cond.initialized RX2, Cond.code yX2_letterAt cX2_letterAt 3 (some .int), Cond.fieldLink RX2 27 "SyllableBook$Contents" "letters" "[I", Cond.methodLink RX4 47 yX4_index, Cond.static yX4_index]
def wsX7_findLeast_r3 : List Cond := [Cond.code yX4_index cX4_index 2 (some .int), Cond.methodLink RX4 50 yX2_pieceWith, Cond.instanceMethod yX2_pieceWith, Cond.selects RX2 yX2_pieceWith yX2_pieceWith, Cond.code yX2_pieceWith cX2_pieceWith 3 (some .int), Cond.fieldLink RX2 30 "SyllableBook$Contents" "pieces" "I", Cond.fieldLink RX2 9 "SyllableBook$Contents" "pieceText" "[I", Cond.methodLink RX7 259 yX1_find, Cond.instanceMethod yX1_find, Cond.selects RX1 yX1_find yX1_find, Cond.initialized RX1, Cond.code yX1_find cX1_find 4 none, Cond.fieldLink RX1 9 "SyllableBook$BestCut" "restProduct" "[J", Cond.fieldLink RX1 31 "SyllableBook$Lattice" "length" "I", Cond.fieldLink RX1 15 "SyllableBook$BestCut" "restParts" "[I", Cond.methodLink RX1 37 yX1_findFirst, Cond.instanceMethod yX1_findFirst, Cond.selects RX1 yX1_findFirst yX1_findFirst, Cond.code yX1_findFirst cX1_findFirst 10 none, Cond.fieldLink RX1 19 "SyllableBook$BestCut" "restFirst" "[I", Cond.methodLink RX1 45 yX4_mostLetters, Cond.methodLink RX1 49 yX4_weightAt, Cond.instanceMethod yX4_weightAt, Cond.selects RX4 yX4_weightAt yX4_weightAt]
def wsX7_findLeast_r4 : List Cond := [Cond.code yX4_weightAt cX4_weightAt 5 (some .int), Cond.methodLink RX4 58 yX4_pieceAt, Cond.instanceMethod yX4_pieceAt, Cond.selects RX4 yX4_pieceAt yX4_pieceAt, Cond.code yX4_pieceAt cX4_pieceAt 3 (some .int), Cond.methodLink RX1 41 yX1_layOut, Cond.instanceMethod yX1_layOut, Cond.selects RX1 yX1_layOut yX1_layOut, Cond.code yX1_layOut cX1_layOut 7 none, Cond.fieldLink RX1 53 "SyllableBook$BestCut" "parts" "I", Cond.fieldLink RX1 56 "SyllableBook$BestCut" "unseen" "I", Cond.fieldLink RX1 22 "SyllableBook$BestCut" "partPiece" "[I", Cond.fieldLink RX1 25 "SyllableBook$BestCut" "partPlace" "[I", Cond.fieldLink RX1 28 "SyllableBook$BestCut" "partLetters" "[I", Cond.methodLink RX1 59 yX4_pieceAt, Cond.methodLink RX7 186 yX1_cost, Cond.instanceMethod yX1_cost, Cond.selects RX1 yX1_cost yX1_cost, Cond.code yX1_cost cX1_cost 1 (some .int)]
def wsX7_findLeast : List Cond := .code yX7_findLeast cX7_findLeast 3 (some .int) :: ((wsX7_findLeast_r1 ++ (wsX7_findLeast_r2 ++ (wsX7_findLeast_r3 ++ wsX7_findLeast_r4))) ++ wsX70 ++ wsX20 ++ wsX40 ++ wsX10)
def wsX7_shrink_r1 : List Cond := [Cond.fieldLink RX7 30 "SyllableBook" "history" "LSyllableBook$History;", Cond.fieldLink RX7 10 "SyllableBook" "contents" "LSyllableBook$Contents;", Cond.fieldLink RX7 96 "SyllableBook$Contents" "pieces" "I", Cond.methodLink RX7 80 yX3_record, Cond.instanceMethod yX3_record, Cond.selects RX3 yX3_record yX3_record, Cond.initialized RX3, Cond.code yX3_record cX3_record 2 none, Cond.fieldLink RX3 18 "SyllableBook$History" "size" "I", Cond.fieldLink RX3 11 "SyllableBook$History" "states" "[LSyllableBook$Contents;", Cond.methodLink RX3 22 yX3_dropOldest, Cond.instanceMethod yX3_dropOldest, Cond.selects RX3 yX3_dropOldest yX3_dropOldest, Cond.code yX3_dropOldest cX3_dropOldest 3 none, Cond.methodLink RX3 25 yX2_copyFrom, Cond.instanceMethod yX2_copyFrom, Cond.selects RX2 yX2_copyFrom yX2_copyFrom, Cond.initialized RX2, Cond.code yX2_copyFrom cX2_copyFrom 2 none, Cond.fieldLink RX2 30 "SyllableBook$Contents" "pieces" "I", Cond.fieldLink RX2 9 "SyllableBook$Contents" "pieceText" "[I", Cond.methodLink RX2 34 arraycopyName, Cond.native arraycopyName, Cond.static arraycopyName]
def wsX7_shrink_r2 : List Cond := [Cond.initialized "java/lang/System", Cond.fieldLink RX2 15 "SyllableBook$Contents" "pieceLetters" "[I", Cond.fieldLink RX2 18 "SyllableBook$Contents" "pieceWeight" "[I", Cond.fieldLink RX2 40 "SyllableBook$Contents" "words" "I", Cond.fieldLink RX2 21 "SyllableBook$Contents" "wordLetters" "[I", Cond.fieldLink RX2 24 "SyllableBook$Contents" "wordCount" "[I", Cond.fieldLink RX2 27 "SyllableBook$Contents" "letters" "[I", Cond.methodLink RX7 149 yX7_findLeast, Cond.instanceMethod yX7_findLeast, Cond.selects RX7 yX7_findLeast yX7_findLeast, Cond.initialized RX7, Cond.code yX7_findLeast cX7_findLeast 3 (some .int), Cond.fieldLink RX7 73 "SyllableBook" "costWithout" "[I", Cond.fieldLink RX7 103 "SyllableBook$Contents" "pieceWeight" "[I", Cond.methodLink RX7 165 yX7_loseEach, Cond.instanceMethod yX7_loseEach, Cond.selects RX7 yX7_loseEach yX7_loseEach, Cond.code yX7_loseEach cX7_loseEach 3 none, Cond.fieldLink RX7 113 "SyllableBook$Contents" "words" "I", Cond.fieldLink RX7 44 "SyllableBook" "lattice" "LSyllableBook$Lattice;", Cond.fieldLink RX7 51 "SyllableBook" "best" "LSyllableBook$BestCut;", Cond.fieldLink RX7 123 "SyllableBook$Contents" "wordCount" "[I", Cond.methodLink RX7 262 yJ7_fill_53178, Cond.static yJ7_fill_53178]
def wsX7_shrink_r3 : List Cond := [Cond.initialized RJ7, Cond.code yJ7_fill_53178 cJ7_fill_53178 4 none, Cond.methodLink RX7 201 yX4_read, Cond.instanceMethod yX4_read, Cond.selects RX4 yX4_read yX4_read, Cond.initialized RX4, Cond.code yX4_read cX4_read 7 none, Cond.fieldLink RX4 21 "SyllableBook$Contents" "wordLetters" "[I", Cond.fieldLink RX4 26 "SyllableBook$Lattice" "length" "I", Cond.fieldLink RX4 30 "SyllableBook$Contents" "pieceWeight" "[I", Cond.fieldLink RX4 18 "SyllableBook$Lattice" "weightOf" "[I", Cond.methodLink RX4 33 arraycopyName, Cond.fieldLink RX4 9 "SyllableBook$Lattice" "text" "[I", Cond.fieldLink RX4 15 "SyllableBook$Lattice" "piece" "[I", Cond.methodLink RX4 39 yX4_mostLetters, Cond.instanceMethod yX4_mostLetters, Cond.selects RX4 yX4_mostLetters yX4_mostLetters, Cond.code yX4_mostLetters cX4_mostLetters 2 (some .int), Cond.methodLink RX4 53 Lib.Math.min.name, Cond.static Lib.Math.min.name, Cond.initialized "java/lang/Math", Cond.code Lib.Math.min.name Lib.Math.min.code 2 (some .int), Cond.methodLink RX4 43 yX2_letterAt, Cond.instanceMethod yX2_letterAt]
def wsX7_shrink_r4 : List Cond := [Cond.selects RX2 yX2_letterAt yX2_letterAt, Cond.code yX2_letterAt cX2_letterAt 3 (some .int), Cond.methodLink RX4 47 yX4_index, Cond.static yX4_index, Cond.code yX4_index cX4_index 2 (some .int), Cond.methodLink RX4 50 yX2_pieceWith, Cond.instanceMethod yX2_pieceWith, Cond.selects RX2 yX2_pieceWith yX2_pieceWith, Cond.code yX2_pieceWith cX2_pieceWith 3 (some .int), Cond.methodLink RX7 259 yX1_find, Cond.instanceMethod yX1_find, Cond.selects RX1 yX1_find yX1_find, Cond.initialized RX1, Cond.code yX1_find cX1_find 4 none, Cond.fieldLink RX1 9 "SyllableBook$BestCut" "restProduct" "[J", Cond.fieldLink RX1 31 "SyllableBook$Lattice" "length" "I", Cond.fieldLink RX1 15 "SyllableBook$BestCut" "restParts" "[I", Cond.methodLink RX1 37 yX1_findFirst, Cond.instanceMethod yX1_findFirst, Cond.selects RX1 yX1_findFirst yX1_findFirst, Cond.code yX1_findFirst cX1_findFirst 10 none, Cond.fieldLink RX1 19 "SyllableBook$BestCut" "restFirst" "[I", Cond.methodLink RX1 45 yX4_mostLetters, Cond.methodLink RX1 49 yX4_weightAt]
def wsX7_shrink_r5 : List Cond := [Cond.instanceMethod yX4_weightAt, Cond.selects RX4 yX4_weightAt yX4_weightAt, Cond.code yX4_weightAt cX4_weightAt 5 (some .int), Cond.methodLink RX4 58 yX4_pieceAt, Cond.instanceMethod yX4_pieceAt, Cond.selects RX4 yX4_pieceAt yX4_pieceAt, Cond.code yX4_pieceAt cX4_pieceAt 3 (some .int), Cond.methodLink RX1 41 yX1_layOut, Cond.instanceMethod yX1_layOut, Cond.selects RX1 yX1_layOut yX1_layOut, Cond.code yX1_layOut cX1_layOut 7 none, Cond.fieldLink RX1 53 "SyllableBook$BestCut" "parts" "I", Cond.fieldLink RX1 56 "SyllableBook$BestCut" "unseen" "I", Cond.fieldLink RX1 22 "SyllableBook$BestCut" "partPiece" "[I", Cond.fieldLink RX1 25 "SyllableBook$BestCut" "partPlace" "[I", Cond.fieldLink RX1 28 "SyllableBook$BestCut" "partLetters" "[I", Cond.methodLink RX1 59 yX4_pieceAt, Cond.methodLink RX7 186 yX1_cost, Cond.instanceMethod yX1_cost, Cond.selects RX1 yX1_cost yX1_cost, Cond.code yX1_cost cX1_cost 1 (some .int), Cond.methodLink RX7 106 yX2_removePiece, Cond.instanceMethod yX2_removePiece, Cond.selects RX2 yX2_removePiece yX2_removePiece]
def wsX7_shrink_r6 : List Cond := [Cond.code yX2_removePiece cX2_removePiece 2 none]
def wsX7_shrink : List Cond := .code yX7_shrink cX7_shrink 4 (some .int) :: ((wsX7_shrink_r1 ++ (wsX7_shrink_r2 ++ (wsX7_shrink_r3 ++ (wsX7_shrink_r4 ++ (wsX7_shrink_r5 ++ wsX7_shrink_r6))))) ++ wsX70 ++ wsX20 ++ wsX30 ++ wsX40 ++ wsX10)
def wsX7_letterOfText : List Cond := .code yX7_letterOfText cX7_letterOfText 3 (some .int) :: ([])
def wsX7_timesInBestCuts_r1 : List Cond := [Cond.fieldLink RX7 10 "SyllableBook" "contents" "LSyllableBook$Contents;", Cond.fieldLink RX7 113 "SyllableBook$Contents" "words" "I", Cond.fieldLink RX7 51 "SyllableBook" "best" "LSyllableBook$BestCut;", Cond.fieldLink RX7 180 "SyllableBook$BestCut" "parts" "I", Cond.fieldLink RX7 213 "SyllableBook$BestCut" "partPiece" "[I", Cond.fieldLink RX7 123 "SyllableBook$Contents" "wordCount" "[I", Cond.methodLink RX7 173 yX7_cutBest, Cond.instanceMethod yX7_cutBest, Cond.selects RX7 yX7_cutBest yX7_cutBest, Cond.initialized RX7, Cond.code yX7_cutBest cX7_cutBest 3 none, Cond.fieldLink RX7 44 "SyllableBook" "lattice" "LSyllableBook$Lattice;", Cond.methodLink RX7 201 yX4_read, Cond.instanceMethod yX4_read, Cond.selects RX4 yX4_read yX4_read, Cond.initialized RX4, Cond.code yX4_read cX4_read 7 none, Cond.fieldLink RX4 21 "SyllableBook$Contents" "wordLetters" "[I", Cond.fieldLink RX4 26 "SyllableBook$Lattice" "length" "I", Cond.fieldLink RX4 30 "SyllableBook$Contents" "pieceWeight" "[I", Cond.fieldLink RX4 18 "SyllableBook$Lattice" "weightOf" "[I", Cond.methodLink RX4 33 arraycopyName, Cond.native arraycopyName, Cond.static arraycopyName]
def wsX7_timesInBestCuts_r2 : List Cond := [Cond.initialized "java/lang/System", Cond.fieldLink RX4 9 "SyllableBook$Lattice" "text" "[I", Cond.fieldLink RX4 15 "SyllableBook$Lattice" "piece" "[I", Cond.methodLink RX4 39 yX4_mostLetters, Cond.instanceMethod yX4_mostLetters, Cond.selects RX4 yX4_mostLetters yX4_mostLetters, Cond.code yX4_mostLetters cX4_mostLetters 2 (some .int), Cond.methodLink RX4 53 Lib.Math.min.name, Cond.static Lib.Math.min.name, Cond.initialized "java/lang/Math", Cond.code Lib.Math.min.name Lib.Math.min.code 2 (some .int), Cond.methodLink RX4 43 yX2_letterAt, Cond.instanceMethod yX2_letterAt, Cond.selects RX2 yX2_letterAt yX2_letterAt, Cond.initialized RX2, Cond.code yX2_letterAt cX2_letterAt 3 (some .int), Cond.fieldLink RX2 27 "SyllableBook$Contents" "letters" "[I", Cond.methodLink RX4 47 yX4_index, Cond.static yX4_index, Cond.code yX4_index cX4_index 2 (some .int), Cond.methodLink RX4 50 yX2_pieceWith, Cond.instanceMethod yX2_pieceWith, Cond.selects RX2 yX2_pieceWith yX2_pieceWith, Cond.code yX2_pieceWith cX2_pieceWith 3 (some .int)]
def wsX7_timesInBestCuts_r3 : List Cond := [Cond.fieldLink RX2 30 "SyllableBook$Contents" "pieces" "I", Cond.fieldLink RX2 9 "SyllableBook$Contents" "pieceText" "[I", Cond.methodLink RX7 259 yX1_find, Cond.instanceMethod yX1_find, Cond.selects RX1 yX1_find yX1_find, Cond.initialized RX1, Cond.code yX1_find cX1_find 4 none, Cond.fieldLink RX1 9 "SyllableBook$BestCut" "restProduct" "[J", Cond.fieldLink RX1 31 "SyllableBook$Lattice" "length" "I", Cond.fieldLink RX1 15 "SyllableBook$BestCut" "restParts" "[I", Cond.methodLink RX1 37 yX1_findFirst, Cond.instanceMethod yX1_findFirst, Cond.selects RX1 yX1_findFirst yX1_findFirst, Cond.code yX1_findFirst cX1_findFirst 10 none, Cond.fieldLink RX1 19 "SyllableBook$BestCut" "restFirst" "[I", Cond.methodLink RX1 45 yX4_mostLetters, Cond.methodLink RX1 49 yX4_weightAt, Cond.instanceMethod yX4_weightAt, Cond.selects RX4 yX4_weightAt yX4_weightAt, Cond.code yX4_weightAt cX4_weightAt 5 (some .int), Cond.methodLink RX4 58 yX4_pieceAt, Cond.instanceMethod yX4_pieceAt, Cond.selects RX4 yX4_pieceAt yX4_pieceAt, Cond.code yX4_pieceAt cX4_pieceAt 3 (some .int)]
def wsX7_timesInBestCuts_r4 : List Cond := [Cond.methodLink RX1 41 yX1_layOut, Cond.instanceMethod yX1_layOut, Cond.selects RX1 yX1_layOut yX1_layOut, Cond.code yX1_layOut cX1_layOut 7 none, Cond.fieldLink RX1 53 "SyllableBook$BestCut" "parts" "I", Cond.fieldLink RX1 56 "SyllableBook$BestCut" "unseen" "I", Cond.fieldLink RX1 22 "SyllableBook$BestCut" "partPiece" "[I", Cond.fieldLink RX1 25 "SyllableBook$BestCut" "partPlace" "[I", Cond.fieldLink RX1 28 "SyllableBook$BestCut" "partLetters" "[I", Cond.methodLink RX1 59 yX4_pieceAt]
def wsX7_timesInBestCuts : List Cond := .code yX7_timesInBestCuts cX7_timesInBestCuts 5 (some .int) :: ((wsX7_timesInBestCuts_r1 ++ (wsX7_timesInBestCuts_r2 ++ (wsX7_timesInBestCuts_r3 ++ wsX7_timesInBestCuts_r4))) ++ wsX70 ++ wsX20 ++ wsX10 ++ wsX40)
def wsX7_costOfAll_r1 : List Cond := [Cond.fieldLink RX7 113 "SyllableBook$Contents" "words" "I", Cond.fieldLink RX7 51 "SyllableBook" "best" "LSyllableBook$BestCut;", Cond.fieldLink RX7 123 "SyllableBook$Contents" "wordCount" "[I", Cond.methodLink RX7 173 yX7_cutBest, Cond.instanceMethod yX7_cutBest, Cond.selects RX7 yX7_cutBest yX7_cutBest, Cond.initialized RX7, Cond.code yX7_cutBest cX7_cutBest 3 none, Cond.fieldLink RX7 44 "SyllableBook" "lattice" "LSyllableBook$Lattice;", Cond.methodLink RX7 201 yX4_read, Cond.instanceMethod yX4_read, Cond.selects RX4 yX4_read yX4_read, Cond.initialized RX4, Cond.code yX4_read cX4_read 7 none, Cond.fieldLink RX4 21 "SyllableBook$Contents" "wordLetters" "[I", Cond.fieldLink RX4 26 "SyllableBook$Lattice" "length" "I", Cond.fieldLink RX4 30 "SyllableBook$Contents" "pieceWeight" "[I", Cond.fieldLink RX4 18 "SyllableBook$Lattice" "weightOf" "[I", Cond.methodLink RX4 33 arraycopyName, Cond.native arraycopyName, Cond.static arraycopyName, Cond.initialized "java/lang/System", Cond.fieldLink RX4 9 "SyllableBook$Lattice" "text" "[I", Cond.fieldLink RX4 15 "SyllableBook$Lattice" "piece" "[I"]
def wsX7_costOfAll_r2 : List Cond := [Cond.methodLink RX4 39 yX4_mostLetters, Cond.instanceMethod yX4_mostLetters, Cond.selects RX4 yX4_mostLetters yX4_mostLetters, Cond.code yX4_mostLetters cX4_mostLetters 2 (some .int), Cond.methodLink RX4 53 Lib.Math.min.name, Cond.static Lib.Math.min.name, Cond.initialized "java/lang/Math", Cond.code Lib.Math.min.name Lib.Math.min.code 2 (some .int), Cond.methodLink RX4 43 yX2_letterAt, Cond.instanceMethod yX2_letterAt, Cond.selects RX2 yX2_letterAt yX2_letterAt, Cond.initialized RX2, Cond.code yX2_letterAt cX2_letterAt 3 (some .int), Cond.fieldLink RX2 27 "SyllableBook$Contents" "letters" "[I", Cond.methodLink RX4 47 yX4_index, Cond.static yX4_index, Cond.code yX4_index cX4_index 2 (some .int), Cond.methodLink RX4 50 yX2_pieceWith, Cond.instanceMethod yX2_pieceWith, Cond.selects RX2 yX2_pieceWith yX2_pieceWith, Cond.code yX2_pieceWith cX2_pieceWith 3 (some .int), Cond.fieldLink RX2 30 "SyllableBook$Contents" "pieces" "I", Cond.fieldLink RX2 9 "SyllableBook$Contents" "pieceText" "[I", Cond.methodLink RX7 259 yX1_find]
def wsX7_costOfAll_r3 : List Cond := [Cond.instanceMethod yX1_find, Cond.selects RX1 yX1_find yX1_find, Cond.initialized RX1, Cond.code yX1_find cX1_find 4 none, Cond.fieldLink RX1 9 "SyllableBook$BestCut" "restProduct" "[J", Cond.fieldLink RX1 31 "SyllableBook$Lattice" "length" "I", Cond.fieldLink RX1 15 "SyllableBook$BestCut" "restParts" "[I", Cond.methodLink RX1 37 yX1_findFirst, Cond.instanceMethod yX1_findFirst, Cond.selects RX1 yX1_findFirst yX1_findFirst, Cond.code yX1_findFirst cX1_findFirst 10 none, Cond.fieldLink RX1 19 "SyllableBook$BestCut" "restFirst" "[I", Cond.methodLink RX1 45 yX4_mostLetters, Cond.methodLink RX1 49 yX4_weightAt, Cond.instanceMethod yX4_weightAt, Cond.selects RX4 yX4_weightAt yX4_weightAt, Cond.code yX4_weightAt cX4_weightAt 5 (some .int), Cond.methodLink RX4 58 yX4_pieceAt, Cond.instanceMethod yX4_pieceAt, Cond.selects RX4 yX4_pieceAt yX4_pieceAt, Cond.code yX4_pieceAt cX4_pieceAt 3 (some .int), Cond.methodLink RX1 41 yX1_layOut, Cond.instanceMethod yX1_layOut, Cond.selects RX1 yX1_layOut yX1_layOut]
def wsX7_costOfAll_r4 : List Cond := [Cond.code yX1_layOut cX1_layOut 7 none, Cond.fieldLink RX1 53 "SyllableBook$BestCut" "parts" "I", Cond.fieldLink RX1 56 "SyllableBook$BestCut" "unseen" "I", Cond.fieldLink RX1 22 "SyllableBook$BestCut" "partPiece" "[I", Cond.fieldLink RX1 25 "SyllableBook$BestCut" "partPlace" "[I", Cond.fieldLink RX1 28 "SyllableBook$BestCut" "partLetters" "[I", Cond.methodLink RX1 59 yX4_pieceAt, Cond.methodLink RX7 186 yX1_cost, Cond.instanceMethod yX1_cost, Cond.selects RX1 yX1_cost yX1_cost, Cond.code yX1_cost cX1_cost 1 (some .int)]
def wsX7_costOfAll : List Cond := .code yX7_costOfAll cX7_costOfAll 4 (some .int) :: ((wsX7_costOfAll_r1 ++ (wsX7_costOfAll_r2 ++ (wsX7_costOfAll_r3 ++ wsX7_costOfAll_r4))) ++ wsX20 ++ wsX70 ++ wsX40 ++ wsX10)
def wsX7_ofPiece_r1 : List Cond := [Cond.fieldLink RX7 10 "SyllableBook" "contents" "LSyllableBook$Contents;", Cond.fieldLink RX7 152 "SyllableBook$Contents" "pieceLetters" "[I", Cond.fieldLink RX7 103 "SyllableBook$Contents" "pieceWeight" "[I", Cond.fieldLink RX7 155 "SyllableBook$Contents" "pieceText" "[I", Cond.fieldLink RX7 73 "SyllableBook" "costWithout" "[I", Cond.constant RX7 172 (100000), Cond.fieldLink RX7 69 "SyllableBook" "borne" "[I", Cond.methodLink RX7 99 yX7_isPiece, Cond.instanceMethod yX7_isPiece, Cond.selects RX7 yX7_isPiece yX7_isPiece, Cond.initialized RX7, Cond.code yX7_isPiece cX7_isPiece 2 (some .boolean), Cond.fieldLink RX7 96 "SyllableBook$Contents" "pieces" "I", Cond.methodLink RX7 158 yX7_letterOfText, Cond.static yX7_letterOfText, Cond.code yX7_letterOfText cX7_letterOfText 3 (some .int), Cond.methodLink RX7 162 yX7_timesInBestCuts, Cond.instanceMethod yX7_timesInBestCuts, Cond.selects RX7 yX7_timesInBestCuts yX7_timesInBestCuts, Cond.code yX7_timesInBestCuts cX7_timesInBestCuts 5 (some .int), Cond.fieldLink RX7 113 "SyllableBook$Contents" "words" "I", Cond.fieldLink RX7 51 "SyllableBook" "best" "LSyllableBook$BestCut;", Cond.fieldLink RX7 180 "SyllableBook$BestCut" "parts" "I", Cond.fieldLink RX7 213 "SyllableBook$BestCut" "partPiece" "[I"]
def wsX7_ofPiece_r2 : List Cond := [Cond.fieldLink RX7 123 "SyllableBook$Contents" "wordCount" "[I", Cond.methodLink RX7 173 yX7_cutBest, Cond.instanceMethod yX7_cutBest, Cond.selects RX7 yX7_cutBest yX7_cutBest, Cond.code yX7_cutBest cX7_cutBest 3 none, Cond.fieldLink RX7 44 "SyllableBook" "lattice" "LSyllableBook$Lattice;", Cond.methodLink RX7 201 yX4_read, Cond.instanceMethod yX4_read, Cond.selects RX4 yX4_read yX4_read, Cond.initialized RX4, Cond.code yX4_read cX4_read 7 none, Cond.fieldLink RX4 21 "SyllableBook$Contents" "wordLetters" "[I", Cond.fieldLink RX4 26 "SyllableBook$Lattice" "length" "I", Cond.fieldLink RX4 30 "SyllableBook$Contents" "pieceWeight" "[I", Cond.fieldLink RX4 18 "SyllableBook$Lattice" "weightOf" "[I", Cond.methodLink RX4 33 arraycopyName, Cond.native arraycopyName, Cond.static arraycopyName, Cond.initialized "java/lang/System", Cond.fieldLink RX4 9 "SyllableBook$Lattice" "text" "[I", Cond.fieldLink RX4 15 "SyllableBook$Lattice" "piece" "[I", Cond.methodLink RX4 39 yX4_mostLetters, Cond.instanceMethod yX4_mostLetters, Cond.selects RX4 yX4_mostLetters yX4_mostLetters]
def wsX7_ofPiece_r3 : List Cond := [Cond.code yX4_mostLetters cX4_mostLetters 2 (some .int), Cond.methodLink RX4 53 Lib.Math.min.name, Cond.static Lib.Math.min.name, Cond.initialized "java/lang/Math", Cond.code Lib.Math.min.name Lib.Math.min.code 2 (some .int), Cond.methodLink RX4 43 yX2_letterAt, Cond.instanceMethod yX2_letterAt, Cond.selects RX2 yX2_letterAt yX2_letterAt, Cond.initialized RX2, Cond.code yX2_letterAt cX2_letterAt 3 (some .int), Cond.fieldLink RX2 27 "SyllableBook$Contents" "letters" "[I", Cond.methodLink RX4 47 yX4_index, Cond.static yX4_index, Cond.code yX4_index cX4_index 2 (some .int), Cond.methodLink RX4 50 yX2_pieceWith, Cond.instanceMethod yX2_pieceWith, Cond.selects RX2 yX2_pieceWith yX2_pieceWith, Cond.code yX2_pieceWith cX2_pieceWith 3 (some .int), Cond.fieldLink RX2 30 "SyllableBook$Contents" "pieces" "I", Cond.fieldLink RX2 9 "SyllableBook$Contents" "pieceText" "[I", Cond.methodLink RX7 259 yX1_find, Cond.instanceMethod yX1_find, Cond.selects RX1 yX1_find yX1_find, Cond.initialized RX1]
def wsX7_ofPiece_r4 : List Cond := [Cond.code yX1_find cX1_find 4 none, Cond.fieldLink RX1 9 "SyllableBook$BestCut" "restProduct" "[J", Cond.fieldLink RX1 31 "SyllableBook$Lattice" "length" "I", Cond.fieldLink RX1 15 "SyllableBook$BestCut" "restParts" "[I", Cond.methodLink RX1 37 yX1_findFirst, Cond.instanceMethod yX1_findFirst, Cond.selects RX1 yX1_findFirst yX1_findFirst, Cond.code yX1_findFirst cX1_findFirst 10 none, Cond.fieldLink RX1 19 "SyllableBook$BestCut" "restFirst" "[I", Cond.methodLink RX1 45 yX4_mostLetters, Cond.methodLink RX1 49 yX4_weightAt, Cond.instanceMethod yX4_weightAt, Cond.selects RX4 yX4_weightAt yX4_weightAt, Cond.code yX4_weightAt cX4_weightAt 5 (some .int), Cond.methodLink RX4 58 yX4_pieceAt, Cond.instanceMethod yX4_pieceAt, Cond.selects RX4 yX4_pieceAt yX4_pieceAt, Cond.code yX4_pieceAt cX4_pieceAt 3 (some .int), Cond.methodLink RX1 41 yX1_layOut, Cond.instanceMethod yX1_layOut, Cond.selects RX1 yX1_layOut yX1_layOut, Cond.code yX1_layOut cX1_layOut 7 none, Cond.fieldLink RX1 53 "SyllableBook$BestCut" "parts" "I", Cond.fieldLink RX1 56 "SyllableBook$BestCut" "unseen" "I"]
def wsX7_ofPiece_r5 : List Cond := [Cond.fieldLink RX1 22 "SyllableBook$BestCut" "partPiece" "[I", Cond.fieldLink RX1 25 "SyllableBook$BestCut" "partPlace" "[I", Cond.fieldLink RX1 28 "SyllableBook$BestCut" "partLetters" "[I", Cond.methodLink RX1 59 yX4_pieceAt, Cond.methodLink RX7 165 yX7_loseEach, Cond.instanceMethod yX7_loseEach, Cond.selects RX7 yX7_loseEach yX7_loseEach, Cond.code yX7_loseEach cX7_loseEach 3 none, Cond.methodLink RX7 262 yJ7_fill_53178, Cond.static yJ7_fill_53178, Cond.initialized RJ7, Cond.code yJ7_fill_53178 cJ7_fill_53178 4 none, Cond.methodLink RX7 186 yX1_cost, Cond.instanceMethod yX1_cost, Cond.selects RX1 yX1_cost yX1_cost, Cond.code yX1_cost cX1_cost 1 (some .int), Cond.methodLink RX7 168 yX7_costOfAll, Cond.instanceMethod yX7_costOfAll, Cond.selects RX7 yX7_costOfAll yX7_costOfAll, Cond.code yX7_costOfAll cX7_costOfAll 4 (some .int), Cond.methodLink RX7 140 yX7_bearAll, Cond.instanceMethod yX7_bearAll, Cond.selects RX7 yX7_bearAll yX7_bearAll, Cond.code yX7_bearAll cX7_bearAll 3 none]
def wsX7_ofPiece_r6 : List Cond := [Cond.fieldLink RX7 58 "SyllableBook" "all" "LSyllableBook$AllCuts;", Cond.methodLink RX7 189 yX0_find, Cond.instanceMethod yX0_find, Cond.selects RX0 yX0_find yX0_find, Cond.initialized RX0, Cond.code yX0_find cX0_find 5 none, Cond.fieldLink RX0 9 "SyllableBook$AllCuts" "before" "[J", Cond.fieldLink RX0 28 "SyllableBook$Lattice" "length" "I", Cond.fieldLink RX0 15 "SyllableBook$AllCuts" "behind" "[J", Cond.fieldLink RX0 18 "SyllableBook$AllCuts" "cutsBehind" "[I", Cond.methodLink RX0 22 yJ7_fill_d0a16, Cond.static yJ7_fill_d0a16, Cond.code yJ7_fill_d0a16 cJ7_fill_d0a16 5 none, Cond.methodLink RX0 34 yX4_mostLetters, Cond.methodLink RX0 38 yX4_weightAt, Cond.methodLink RX0 42 yX0_addBehind, Cond.instanceMethod yX0_addBehind, Cond.selects RX0 yX0_addBehind yX0_addBehind, Cond.code yX0_addBehind cX0_addBehind 6 none, Cond.methodLink RX7 222 yX0_shareOf, Cond.instanceMethod yX0_shareOf, Cond.selects RX0 yX0_shareOf yX0_shareOf, Cond.code yX0_shareOf cX0_shareOf 9 (some .int), Cond.constantLong RX0 54 (1000)]
def wsX7_ofPiece_r7 : List Cond := [Cond.methodLink RX0 46 yX4_pieceAt, Cond.methodLink RX0 50 yX0_total, Cond.instanceMethod yX0_total, Cond.selects RX0 yX0_total yX0_total, Cond.code yX0_total cX0_total 1 (some .long)]
def wsX7_ofPiece : List Cond := .code yX7_ofPiece cX7_ofPiece 3 (some .int) :: ((wsX7_ofPiece_r1 ++ (wsX7_ofPiece_r2 ++ (wsX7_ofPiece_r3 ++ (wsX7_ofPiece_r4 ++ (wsX7_ofPiece_r5 ++ (wsX7_ofPiece_r6 ++ wsX7_ofPiece_r7)))))) ++ wsX70 ++ wsX20 ++ wsX10 ++ wsX40 ++ wsX00)
def wsX7_ofWord_r1 : List Cond := [Cond.fieldLink RX7 10 "SyllableBook" "contents" "LSyllableBook$Contents;", Cond.fieldLink RX7 177 "SyllableBook$Contents" "wordLetters" "[I", Cond.fieldLink RX7 123 "SyllableBook$Contents" "wordCount" "[I", Cond.fieldLink RX7 51 "SyllableBook" "best" "LSyllableBook$BestCut;", Cond.fieldLink RX7 180 "SyllableBook$BestCut" "parts" "I", Cond.fieldLink RX7 183 "SyllableBook$BestCut" "unseen" "I", Cond.fieldLink RX7 58 "SyllableBook" "all" "LSyllableBook$AllCuts;", Cond.fieldLink RX7 44 "SyllableBook" "lattice" "LSyllableBook$Lattice;", Cond.methodLink RX7 120 yX7_isWord, Cond.instanceMethod yX7_isWord, Cond.selects RX7 yX7_isWord yX7_isWord, Cond.initialized RX7, Cond.code yX7_isWord cX7_isWord 2 (some .boolean), Cond.fieldLink RX7 113 "SyllableBook$Contents" "words" "I", Cond.methodLink RX7 173 yX7_cutBest, Cond.instanceMethod yX7_cutBest, Cond.selects RX7 yX7_cutBest yX7_cutBest, Cond.code yX7_cutBest cX7_cutBest 3 none, Cond.methodLink RX7 201 yX4_read, Cond.instanceMethod yX4_read, Cond.selects RX4 yX4_read yX4_read, Cond.initialized RX4, Cond.code yX4_read cX4_read 7 none, Cond.fieldLink RX4 21 "SyllableBook$Contents" "wordLetters" "[I"]
def wsX7_ofWord_r2 : List Cond := [Cond.fieldLink RX4 26 "SyllableBook$Lattice" "length" "I", Cond.fieldLink RX4 30 "SyllableBook$Contents" "pieceWeight" "[I", Cond.fieldLink RX4 18 "SyllableBook$Lattice" "weightOf" "[I", Cond.methodLink RX4 33 arraycopyName, Cond.native arraycopyName, Cond.static arraycopyName, Cond.initialized "java/lang/System", Cond.fieldLink RX4 9 "SyllableBook$Lattice" "text" "[I", Cond.fieldLink RX4 15 "SyllableBook$Lattice" "piece" "[I", Cond.methodLink RX4 39 yX4_mostLetters, Cond.instanceMethod yX4_mostLetters, Cond.selects RX4 yX4_mostLetters yX4_mostLetters, Cond.code yX4_mostLetters cX4_mostLetters 2 (some .int), Cond.methodLink RX4 53 Lib.Math.min.name, Cond.static Lib.Math.min.name, Cond.initialized "java/lang/Math", Cond.code Lib.Math.min.name Lib.Math.min.code 2 (some .int), Cond.methodLink RX4 43 yX2_letterAt, Cond.instanceMethod yX2_letterAt, Cond.selects RX2 yX2_letterAt yX2_letterAt, Cond.initialized RX2, Cond.code yX2_letterAt cX2_letterAt 3 (some .int), Cond.fieldLink RX2 27 "SyllableBook$Contents" "letters" "[I", Cond.methodLink RX4 47 yX4_index]
def wsX7_ofWord_r3 : List Cond := [Cond.static yX4_index, Cond.code yX4_index cX4_index 2 (some .int), Cond.methodLink RX4 50 yX2_pieceWith, Cond.instanceMethod yX2_pieceWith, Cond.selects RX2 yX2_pieceWith yX2_pieceWith, Cond.code yX2_pieceWith cX2_pieceWith 3 (some .int), Cond.fieldLink RX2 30 "SyllableBook$Contents" "pieces" "I", Cond.fieldLink RX2 9 "SyllableBook$Contents" "pieceText" "[I", Cond.methodLink RX7 259 yX1_find, Cond.instanceMethod yX1_find, Cond.selects RX1 yX1_find yX1_find, Cond.initialized RX1, Cond.code yX1_find cX1_find 4 none, Cond.fieldLink RX1 9 "SyllableBook$BestCut" "restProduct" "[J", Cond.fieldLink RX1 31 "SyllableBook$Lattice" "length" "I", Cond.fieldLink RX1 15 "SyllableBook$BestCut" "restParts" "[I", Cond.methodLink RX1 37 yX1_findFirst, Cond.instanceMethod yX1_findFirst, Cond.selects RX1 yX1_findFirst yX1_findFirst, Cond.code yX1_findFirst cX1_findFirst 10 none, Cond.fieldLink RX1 19 "SyllableBook$BestCut" "restFirst" "[I", Cond.methodLink RX1 45 yX4_mostLetters, Cond.methodLink RX1 49 yX4_weightAt, Cond.instanceMethod yX4_weightAt]
def wsX7_ofWord_r4 : List Cond := [Cond.selects RX4 yX4_weightAt yX4_weightAt, Cond.code yX4_weightAt cX4_weightAt 5 (some .int), Cond.methodLink RX4 58 yX4_pieceAt, Cond.instanceMethod yX4_pieceAt, Cond.selects RX4 yX4_pieceAt yX4_pieceAt, Cond.code yX4_pieceAt cX4_pieceAt 3 (some .int), Cond.methodLink RX1 41 yX1_layOut, Cond.instanceMethod yX1_layOut, Cond.selects RX1 yX1_layOut yX1_layOut, Cond.code yX1_layOut cX1_layOut 7 none, Cond.fieldLink RX1 53 "SyllableBook$BestCut" "parts" "I", Cond.fieldLink RX1 56 "SyllableBook$BestCut" "unseen" "I", Cond.fieldLink RX1 22 "SyllableBook$BestCut" "partPiece" "[I", Cond.fieldLink RX1 25 "SyllableBook$BestCut" "partPlace" "[I", Cond.fieldLink RX1 28 "SyllableBook$BestCut" "partLetters" "[I", Cond.methodLink RX1 59 yX4_pieceAt, Cond.methodLink RX7 186 yX1_cost, Cond.instanceMethod yX1_cost, Cond.selects RX1 yX1_cost yX1_cost, Cond.code yX1_cost cX1_cost 1 (some .int), Cond.methodLink RX7 189 yX0_find, Cond.instanceMethod yX0_find, Cond.selects RX0 yX0_find yX0_find, Cond.initialized RX0]
def wsX7_ofWord_r5 : List Cond := [Cond.code yX0_find cX0_find 5 none, Cond.fieldLink RX0 9 "SyllableBook$AllCuts" "before" "[J", Cond.fieldLink RX0 28 "SyllableBook$Lattice" "length" "I", Cond.fieldLink RX0 15 "SyllableBook$AllCuts" "behind" "[J", Cond.fieldLink RX0 18 "SyllableBook$AllCuts" "cutsBehind" "[I", Cond.methodLink RX0 22 yJ7_fill_d0a16, Cond.static yJ7_fill_d0a16, Cond.initialized RJ7, Cond.code yJ7_fill_d0a16 cJ7_fill_d0a16 5 none, Cond.methodLink RX0 34 yX4_mostLetters, Cond.methodLink RX0 38 yX4_weightAt, Cond.methodLink RX0 42 yX0_addBehind, Cond.instanceMethod yX0_addBehind, Cond.selects RX0 yX0_addBehind yX0_addBehind, Cond.code yX0_addBehind cX0_addBehind 6 none, Cond.methodLink RX7 193 yX0_cuts, Cond.instanceMethod yX0_cuts, Cond.selects RX0 yX0_cuts yX0_cuts, Cond.code yX0_cuts cX0_cuts 1 (some .int)]
def wsX7_ofWord : List Cond := .code yX7_ofWord cX7_ofWord 3 (some .int) :: ((wsX7_ofWord_r1 ++ (wsX7_ofWord_r2 ++ (wsX7_ofWord_r3 ++ (wsX7_ofWord_r4 ++ wsX7_ofWord_r5)))) ++ wsX70 ++ wsX20 ++ wsX10 ++ wsX40 ++ wsX00)
def wsX7_letter : List Cond := .code yX7_letter cX7_letter 3 (some .int) :: ([.fieldLink RX7 10 "SyllableBook" "contents" "LSyllableBook$Contents;", .fieldLink RX7 177 "SyllableBook$Contents" "wordLetters" "[I", .methodLink RX7 120 yX7_isWord, .instanceMethod yX7_isWord, .selects RX7 yX7_isWord yX7_isWord, .initialized RX7, .code yX7_isWord cX7_isWord 2 (some .boolean), .fieldLink RX7 113 "SyllableBook$Contents" "words" "I", .methodLink RX7 196 yX2_letterAt, .instanceMethod yX2_letterAt, .selects RX2 yX2_letterAt yX2_letterAt, .initialized RX2, .code yX2_letterAt cX2_letterAt 3 (some .int), .fieldLink RX2 27 "SyllableBook$Contents" "letters" "[I"] ++ wsX70 ++ wsX20)
def wsX7_product_r1 : List Cond := [Cond.constantLong RX7 199 (-1), Cond.fieldLink RX7 44 "SyllableBook" "lattice" "LSyllableBook$Lattice;", Cond.fieldLink RX7 10 "SyllableBook" "contents" "LSyllableBook$Contents;", Cond.fieldLink RX7 58 "SyllableBook" "all" "LSyllableBook$AllCuts;", Cond.fieldLink RX7 51 "SyllableBook" "best" "LSyllableBook$BestCut;", Cond.constantLong RX7 211 (-2), Cond.methodLink RX7 120 yX7_isWord, Cond.instanceMethod yX7_isWord, Cond.selects RX7 yX7_isWord yX7_isWord, Cond.initialized RX7, Cond.code yX7_isWord cX7_isWord 2 (some .boolean), Cond.fieldLink RX7 113 "SyllableBook$Contents" "words" "I", Cond.methodLink RX7 201 yX4_read, Cond.instanceMethod yX4_read, Cond.selects RX4 yX4_read yX4_read, Cond.initialized RX4, Cond.code yX4_read cX4_read 7 none, Cond.fieldLink RX4 21 "SyllableBook$Contents" "wordLetters" "[I", Cond.fieldLink RX4 26 "SyllableBook$Lattice" "length" "I", Cond.fieldLink RX4 30 "SyllableBook$Contents" "pieceWeight" "[I", Cond.fieldLink RX4 18 "SyllableBook$Lattice" "weightOf" "[I", Cond.methodLink RX4 33 arraycopyName, Cond.native arraycopyName, Cond.static arraycopyName]
def wsX7_product_r2 : List Cond := [Cond.initialized "java/lang/System", Cond.fieldLink RX4 9 "SyllableBook$Lattice" "text" "[I", Cond.fieldLink RX4 15 "SyllableBook$Lattice" "piece" "[I", Cond.methodLink RX4 39 yX4_mostLetters, Cond.instanceMethod yX4_mostLetters, Cond.selects RX4 yX4_mostLetters yX4_mostLetters, Cond.code yX4_mostLetters cX4_mostLetters 2 (some .int), Cond.methodLink RX4 53 Lib.Math.min.name, Cond.static Lib.Math.min.name, Cond.initialized "java/lang/Math", Cond.code Lib.Math.min.name Lib.Math.min.code 2 (some .int), Cond.methodLink RX4 43 yX2_letterAt, Cond.instanceMethod yX2_letterAt, Cond.selects RX2 yX2_letterAt yX2_letterAt, Cond.initialized RX2, Cond.code yX2_letterAt cX2_letterAt 3 (some .int), Cond.fieldLink RX2 27 "SyllableBook$Contents" "letters" "[I", Cond.methodLink RX4 47 yX4_index, Cond.static yX4_index, Cond.code yX4_index cX4_index 2 (some .int), Cond.methodLink RX4 50 yX2_pieceWith, Cond.instanceMethod yX2_pieceWith, Cond.selects RX2 yX2_pieceWith yX2_pieceWith, Cond.code yX2_pieceWith cX2_pieceWith 3 (some .int)]
def wsX7_product_r3 : List Cond := [Cond.fieldLink RX2 30 "SyllableBook$Contents" "pieces" "I", Cond.fieldLink RX2 9 "SyllableBook$Contents" "pieceText" "[I", Cond.methodLink RX7 189 yX0_find, Cond.instanceMethod yX0_find, Cond.selects RX0 yX0_find yX0_find, Cond.initialized RX0, Cond.code yX0_find cX0_find 5 none, Cond.fieldLink RX0 9 "SyllableBook$AllCuts" "before" "[J", Cond.fieldLink RX0 28 "SyllableBook$Lattice" "length" "I", Cond.fieldLink RX0 15 "SyllableBook$AllCuts" "behind" "[J", Cond.fieldLink RX0 18 "SyllableBook$AllCuts" "cutsBehind" "[I", Cond.methodLink RX0 22 yJ7_fill_d0a16, Cond.static yJ7_fill_d0a16, Cond.initialized RJ7, Cond.code yJ7_fill_d0a16 cJ7_fill_d0a16 5 none, Cond.methodLink RX0 34 yX4_mostLetters, Cond.methodLink RX0 38 yX4_weightAt, Cond.instanceMethod yX4_weightAt, Cond.selects RX4 yX4_weightAt yX4_weightAt, Cond.code yX4_weightAt cX4_weightAt 5 (some .int), Cond.methodLink RX4 58 yX4_pieceAt, Cond.instanceMethod yX4_pieceAt, Cond.selects RX4 yX4_pieceAt yX4_pieceAt, Cond.code yX4_pieceAt cX4_pieceAt 3 (some .int)]
def wsX7_product_r4 : List Cond := [Cond.methodLink RX0 42 yX0_addBehind, Cond.instanceMethod yX0_addBehind, Cond.selects RX0 yX0_addBehind yX0_addBehind, Cond.code yX0_addBehind cX0_addBehind 6 none, Cond.methodLink RX7 204 yX0_total, Cond.instanceMethod yX0_total, Cond.selects RX0 yX0_total yX0_total, Cond.code yX0_total cX0_total 1 (some .long), Cond.methodLink RX7 173 yX7_cutBest, Cond.instanceMethod yX7_cutBest, Cond.selects RX7 yX7_cutBest yX7_cutBest, Cond.code yX7_cutBest cX7_cutBest 3 none, Cond.methodLink RX7 259 yX1_find, Cond.instanceMethod yX1_find, Cond.selects RX1 yX1_find yX1_find, Cond.initialized RX1, Cond.code yX1_find cX1_find 4 none, Cond.fieldLink RX1 9 "SyllableBook$BestCut" "restProduct" "[J", Cond.fieldLink RX1 31 "SyllableBook$Lattice" "length" "I", Cond.fieldLink RX1 15 "SyllableBook$BestCut" "restParts" "[I", Cond.methodLink RX1 37 yX1_findFirst, Cond.instanceMethod yX1_findFirst, Cond.selects RX1 yX1_findFirst yX1_findFirst, Cond.code yX1_findFirst cX1_findFirst 10 none]
def wsX7_product_r5 : List Cond := [Cond.fieldLink RX1 19 "SyllableBook$BestCut" "restFirst" "[I", Cond.methodLink RX1 45 yX4_mostLetters, Cond.methodLink RX1 49 yX4_weightAt, Cond.methodLink RX1 41 yX1_layOut, Cond.instanceMethod yX1_layOut, Cond.selects RX1 yX1_layOut yX1_layOut, Cond.code yX1_layOut cX1_layOut 7 none, Cond.fieldLink RX1 53 "SyllableBook$BestCut" "parts" "I", Cond.fieldLink RX1 56 "SyllableBook$BestCut" "unseen" "I", Cond.fieldLink RX1 22 "SyllableBook$BestCut" "partPiece" "[I", Cond.fieldLink RX1 25 "SyllableBook$BestCut" "partPlace" "[I", Cond.fieldLink RX1 28 "SyllableBook$BestCut" "partLetters" "[I", Cond.methodLink RX1 59 yX4_pieceAt, Cond.methodLink RX7 208 yX1_greatestProduct, Cond.instanceMethod yX1_greatestProduct, Cond.selects RX1 yX1_greatestProduct yX1_greatestProduct, Cond.code yX1_greatestProduct cX1_greatestProduct 1 (some .long)]
def wsX7_product : List Cond := .code yX7_product cX7_product 3 (some .long) :: ((wsX7_product_r1 ++ (wsX7_product_r2 ++ (wsX7_product_r3 ++ (wsX7_product_r4 ++ wsX7_product_r5)))) ++ wsX70 ++ wsX20 ++ wsX40 ++ wsX00 ++ wsX10)
def wsX7_part_r1 : List Cond := [Cond.fieldLink RX7 10 "SyllableBook" "contents" "LSyllableBook$Contents;", Cond.fieldLink RX7 51 "SyllableBook" "best" "LSyllableBook$BestCut;", Cond.fieldLink RX7 180 "SyllableBook$BestCut" "parts" "I", Cond.fieldLink RX7 213 "SyllableBook$BestCut" "partPiece" "[I", Cond.fieldLink RX7 216 "SyllableBook$BestCut" "partPlace" "[I", Cond.fieldLink RX7 219 "SyllableBook$BestCut" "partLetters" "[I", Cond.methodLink RX7 120 yX7_isWord, Cond.instanceMethod yX7_isWord, Cond.selects RX7 yX7_isWord yX7_isWord, Cond.initialized RX7, Cond.code yX7_isWord cX7_isWord 2 (some .boolean), Cond.fieldLink RX7 113 "SyllableBook$Contents" "words" "I", Cond.methodLink RX7 173 yX7_cutBest, Cond.instanceMethod yX7_cutBest, Cond.selects RX7 yX7_cutBest yX7_cutBest, Cond.code yX7_cutBest cX7_cutBest 3 none, Cond.fieldLink RX7 44 "SyllableBook" "lattice" "LSyllableBook$Lattice;", Cond.methodLink RX7 201 yX4_read, Cond.instanceMethod yX4_read, Cond.selects RX4 yX4_read yX4_read, Cond.initialized RX4, Cond.code yX4_read cX4_read 7 none, Cond.fieldLink RX4 21 "SyllableBook$Contents" "wordLetters" "[I", Cond.fieldLink RX4 26 "SyllableBook$Lattice" "length" "I"]
def wsX7_part_r2 : List Cond := [Cond.fieldLink RX4 30 "SyllableBook$Contents" "pieceWeight" "[I", Cond.fieldLink RX4 18 "SyllableBook$Lattice" "weightOf" "[I", Cond.methodLink RX4 33 arraycopyName, Cond.native arraycopyName, Cond.static arraycopyName, Cond.initialized "java/lang/System", Cond.fieldLink RX4 9 "SyllableBook$Lattice" "text" "[I", Cond.fieldLink RX4 15 "SyllableBook$Lattice" "piece" "[I", Cond.methodLink RX4 39 yX4_mostLetters, Cond.instanceMethod yX4_mostLetters, Cond.selects RX4 yX4_mostLetters yX4_mostLetters, Cond.code yX4_mostLetters cX4_mostLetters 2 (some .int), Cond.methodLink RX4 53 Lib.Math.min.name, Cond.static Lib.Math.min.name, Cond.initialized "java/lang/Math", Cond.code Lib.Math.min.name Lib.Math.min.code 2 (some .int), Cond.methodLink RX4 43 yX2_letterAt, Cond.instanceMethod yX2_letterAt, Cond.selects RX2 yX2_letterAt yX2_letterAt, Cond.initialized RX2, Cond.code yX2_letterAt cX2_letterAt 3 (some .int), Cond.fieldLink RX2 27 "SyllableBook$Contents" "letters" "[I", Cond.methodLink RX4 47 yX4_index, Cond.static yX4_index]
def wsX7_part_r3 : List Cond := [Cond.code yX4_index cX4_index 2 (some .int), Cond.methodLink RX4 50 yX2_pieceWith, Cond.instanceMethod yX2_pieceWith, Cond.selects RX2 yX2_pieceWith yX2_pieceWith, Cond.code yX2_pieceWith cX2_pieceWith 3 (some .int), Cond.fieldLink RX2 30 "SyllableBook$Contents" "pieces" "I", Cond.fieldLink RX2 9 "SyllableBook$Contents" "pieceText" "[I", Cond.methodLink RX7 259 yX1_find, Cond.instanceMethod yX1_find, Cond.selects RX1 yX1_find yX1_find, Cond.initialized RX1, Cond.code yX1_find cX1_find 4 none, Cond.fieldLink RX1 9 "SyllableBook$BestCut" "restProduct" "[J", Cond.fieldLink RX1 31 "SyllableBook$Lattice" "length" "I", Cond.fieldLink RX1 15 "SyllableBook$BestCut" "restParts" "[I", Cond.methodLink RX1 37 yX1_findFirst, Cond.instanceMethod yX1_findFirst, Cond.selects RX1 yX1_findFirst yX1_findFirst, Cond.code yX1_findFirst cX1_findFirst 10 none, Cond.fieldLink RX1 19 "SyllableBook$BestCut" "restFirst" "[I", Cond.methodLink RX1 45 yX4_mostLetters, Cond.methodLink RX1 49 yX4_weightAt, Cond.instanceMethod yX4_weightAt, Cond.selects RX4 yX4_weightAt yX4_weightAt]
def wsX7_part_r4 : List Cond := [Cond.code yX4_weightAt cX4_weightAt 5 (some .int), Cond.methodLink RX4 58 yX4_pieceAt, Cond.instanceMethod yX4_pieceAt, Cond.selects RX4 yX4_pieceAt yX4_pieceAt, Cond.code yX4_pieceAt cX4_pieceAt 3 (some .int), Cond.methodLink RX1 41 yX1_layOut, Cond.instanceMethod yX1_layOut, Cond.selects RX1 yX1_layOut yX1_layOut, Cond.code yX1_layOut cX1_layOut 7 none, Cond.fieldLink RX1 53 "SyllableBook$BestCut" "parts" "I", Cond.fieldLink RX1 56 "SyllableBook$BestCut" "unseen" "I", Cond.fieldLink RX1 22 "SyllableBook$BestCut" "partPiece" "[I", Cond.fieldLink RX1 25 "SyllableBook$BestCut" "partPlace" "[I", Cond.fieldLink RX1 28 "SyllableBook$BestCut" "partLetters" "[I", Cond.methodLink RX1 59 yX4_pieceAt]
def wsX7_part : List Cond := .code yX7_part cX7_part 4 (some .int) :: ((wsX7_part_r1 ++ (wsX7_part_r2 ++ (wsX7_part_r3 ++ wsX7_part_r4))) ++ wsX70 ++ wsX10 ++ wsX20 ++ wsX40)
def wsX7_share_r1 : List Cond := [Cond.fieldLink RX7 44 "SyllableBook" "lattice" "LSyllableBook$Lattice;", Cond.fieldLink RX7 10 "SyllableBook" "contents" "LSyllableBook$Contents;", Cond.fieldLink RX7 58 "SyllableBook" "all" "LSyllableBook$AllCuts;", Cond.methodLink RX7 120 yX7_isWord, Cond.instanceMethod yX7_isWord, Cond.selects RX7 yX7_isWord yX7_isWord, Cond.initialized RX7, Cond.code yX7_isWord cX7_isWord 2 (some .boolean), Cond.fieldLink RX7 113 "SyllableBook$Contents" "words" "I", Cond.methodLink RX7 99 yX7_isPiece, Cond.instanceMethod yX7_isPiece, Cond.selects RX7 yX7_isPiece yX7_isPiece, Cond.code yX7_isPiece cX7_isPiece 2 (some .boolean), Cond.fieldLink RX7 96 "SyllableBook$Contents" "pieces" "I", Cond.methodLink RX7 201 yX4_read, Cond.instanceMethod yX4_read, Cond.selects RX4 yX4_read yX4_read, Cond.initialized RX4, Cond.code yX4_read cX4_read 7 none, Cond.fieldLink RX4 21 "SyllableBook$Contents" "wordLetters" "[I", Cond.fieldLink RX4 26 "SyllableBook$Lattice" "length" "I", Cond.fieldLink RX4 30 "SyllableBook$Contents" "pieceWeight" "[I", Cond.fieldLink RX4 18 "SyllableBook$Lattice" "weightOf" "[I", Cond.methodLink RX4 33 arraycopyName]
def wsX7_share_r2 : List Cond := [Cond.native arraycopyName, Cond.static arraycopyName, Cond.initialized "java/lang/System", Cond.fieldLink RX4 9 "SyllableBook$Lattice" "text" "[I", Cond.fieldLink RX4 15 "SyllableBook$Lattice" "piece" "[I", Cond.methodLink RX4 39 yX4_mostLetters, Cond.instanceMethod yX4_mostLetters, Cond.selects RX4 yX4_mostLetters yX4_mostLetters, Cond.code yX4_mostLetters cX4_mostLetters 2 (some .int), Cond.methodLink RX4 53 Lib.Math.min.name, Cond.static Lib.Math.min.name, Cond.initialized "java/lang/Math", Cond.code Lib.Math.min.name Lib.Math.min.code 2 (some .int), Cond.methodLink RX4 43 yX2_letterAt, Cond.instanceMethod yX2_letterAt, Cond.selects RX2 yX2_letterAt yX2_letterAt, Cond.initialized RX2, Cond.code yX2_letterAt cX2_letterAt 3 (some .int), Cond.fieldLink RX2 27 "SyllableBook$Contents" "letters" "[I", Cond.methodLink RX4 47 yX4_index, Cond.static yX4_index, Cond.code yX4_index cX4_index 2 (some .int), Cond.methodLink RX4 50 yX2_pieceWith, Cond.instanceMethod yX2_pieceWith]
def wsX7_share_r3 : List Cond := [Cond.selects RX2 yX2_pieceWith yX2_pieceWith, Cond.code yX2_pieceWith cX2_pieceWith 3 (some .int), Cond.fieldLink RX2 30 "SyllableBook$Contents" "pieces" "I", Cond.fieldLink RX2 9 "SyllableBook$Contents" "pieceText" "[I", Cond.methodLink RX7 189 yX0_find, Cond.instanceMethod yX0_find, Cond.selects RX0 yX0_find yX0_find, Cond.initialized RX0, Cond.code yX0_find cX0_find 5 none, Cond.fieldLink RX0 9 "SyllableBook$AllCuts" "before" "[J", Cond.fieldLink RX0 28 "SyllableBook$Lattice" "length" "I", Cond.fieldLink RX0 15 "SyllableBook$AllCuts" "behind" "[J", Cond.fieldLink RX0 18 "SyllableBook$AllCuts" "cutsBehind" "[I", Cond.methodLink RX0 22 yJ7_fill_d0a16, Cond.static yJ7_fill_d0a16, Cond.initialized RJ7, Cond.code yJ7_fill_d0a16 cJ7_fill_d0a16 5 none, Cond.methodLink RX0 34 yX4_mostLetters, Cond.methodLink RX0 38 yX4_weightAt, Cond.instanceMethod yX4_weightAt, Cond.selects RX4 yX4_weightAt yX4_weightAt, Cond.code yX4_weightAt cX4_weightAt 5 (some .int), Cond.methodLink RX4 58 yX4_pieceAt, Cond.instanceMethod yX4_pieceAt]
def wsX7_share_r4 : List Cond := [Cond.selects RX4 yX4_pieceAt yX4_pieceAt, Cond.code yX4_pieceAt cX4_pieceAt 3 (some .int), Cond.methodLink RX0 42 yX0_addBehind, Cond.instanceMethod yX0_addBehind, Cond.selects RX0 yX0_addBehind yX0_addBehind, Cond.code yX0_addBehind cX0_addBehind 6 none, Cond.methodLink RX7 222 yX0_shareOf, Cond.instanceMethod yX0_shareOf, Cond.selects RX0 yX0_shareOf yX0_shareOf, Cond.code yX0_shareOf cX0_shareOf 9 (some .int), Cond.constantLong RX0 54 (1000), Cond.methodLink RX0 46 yX4_pieceAt, Cond.methodLink RX0 50 yX0_total, Cond.instanceMethod yX0_total, Cond.selects RX0 yX0_total yX0_total, Cond.code yX0_total cX0_total 1 (some .long)]
def wsX7_share : List Cond := .code yX7_share cX7_share 3 (some .int) :: ((wsX7_share_r1 ++ (wsX7_share_r2 ++ (wsX7_share_r3 ++ wsX7_share_r4))) ++ wsX70 ++ wsX20 ++ wsX40 ++ wsX00)
def wsX7_lettersOfAll : List Cond := .code yX7_lettersOfAll cX7_lettersOfAll 3 (some .int) :: ([.fieldLink RX7 10 "SyllableBook" "contents" "LSyllableBook$Contents;", .fieldLink RX7 113 "SyllableBook$Contents" "words" "I", .fieldLink RX7 177 "SyllableBook$Contents" "wordLetters" "[I", .fieldLink RX7 123 "SyllableBook$Contents" "wordCount" "[I"] ++ wsX70 ++ wsX20)
def wsX7_partsOfAll_r1 : List Cond := [Cond.fieldLink RX7 10 "SyllableBook" "contents" "LSyllableBook$Contents;", Cond.fieldLink RX7 113 "SyllableBook$Contents" "words" "I", Cond.fieldLink RX7 51 "SyllableBook" "best" "LSyllableBook$BestCut;", Cond.fieldLink RX7 180 "SyllableBook$BestCut" "parts" "I", Cond.fieldLink RX7 123 "SyllableBook$Contents" "wordCount" "[I", Cond.methodLink RX7 173 yX7_cutBest, Cond.instanceMethod yX7_cutBest, Cond.selects RX7 yX7_cutBest yX7_cutBest, Cond.initialized RX7, Cond.code yX7_cutBest cX7_cutBest 3 none, Cond.fieldLink RX7 44 "SyllableBook" "lattice" "LSyllableBook$Lattice;", Cond.methodLink RX7 201 yX4_read, Cond.instanceMethod yX4_read, Cond.selects RX4 yX4_read yX4_read, Cond.initialized RX4, Cond.code yX4_read cX4_read 7 none, Cond.fieldLink RX4 21 "SyllableBook$Contents" "wordLetters" "[I", Cond.fieldLink RX4 26 "SyllableBook$Lattice" "length" "I", Cond.fieldLink RX4 30 "SyllableBook$Contents" "pieceWeight" "[I", Cond.fieldLink RX4 18 "SyllableBook$Lattice" "weightOf" "[I", Cond.methodLink RX4 33 arraycopyName, Cond.native arraycopyName, Cond.static arraycopyName, Cond.initialized "java/lang/System"]
def wsX7_partsOfAll_r2 : List Cond := [Cond.fieldLink RX4 9 "SyllableBook$Lattice" "text" "[I", Cond.fieldLink RX4 15 "SyllableBook$Lattice" "piece" "[I", Cond.methodLink RX4 39 yX4_mostLetters, Cond.instanceMethod yX4_mostLetters, Cond.selects RX4 yX4_mostLetters yX4_mostLetters, Cond.code yX4_mostLetters cX4_mostLetters 2 (some .int), Cond.methodLink RX4 53 Lib.Math.min.name, Cond.static Lib.Math.min.name, Cond.initialized "java/lang/Math", Cond.code Lib.Math.min.name Lib.Math.min.code 2 (some .int), Cond.methodLink RX4 43 yX2_letterAt, Cond.instanceMethod yX2_letterAt, Cond.selects RX2 yX2_letterAt yX2_letterAt, Cond.initialized RX2, Cond.code yX2_letterAt cX2_letterAt 3 (some .int), Cond.fieldLink RX2 27 "SyllableBook$Contents" "letters" "[I", Cond.methodLink RX4 47 yX4_index, Cond.static yX4_index, Cond.code yX4_index cX4_index 2 (some .int), Cond.methodLink RX4 50 yX2_pieceWith, Cond.instanceMethod yX2_pieceWith, Cond.selects RX2 yX2_pieceWith yX2_pieceWith, Cond.code yX2_pieceWith cX2_pieceWith 3 (some .int), Cond.fieldLink RX2 30 "SyllableBook$Contents" "pieces" "I"]
def wsX7_partsOfAll_r3 : List Cond := [Cond.fieldLink RX2 9 "SyllableBook$Contents" "pieceText" "[I", Cond.methodLink RX7 259 yX1_find, Cond.instanceMethod yX1_find, Cond.selects RX1 yX1_find yX1_find, Cond.initialized RX1, Cond.code yX1_find cX1_find 4 none, Cond.fieldLink RX1 9 "SyllableBook$BestCut" "restProduct" "[J", Cond.fieldLink RX1 31 "SyllableBook$Lattice" "length" "I", Cond.fieldLink RX1 15 "SyllableBook$BestCut" "restParts" "[I", Cond.methodLink RX1 37 yX1_findFirst, Cond.instanceMethod yX1_findFirst, Cond.selects RX1 yX1_findFirst yX1_findFirst, Cond.code yX1_findFirst cX1_findFirst 10 none, Cond.fieldLink RX1 19 "SyllableBook$BestCut" "restFirst" "[I", Cond.methodLink RX1 45 yX4_mostLetters, Cond.methodLink RX1 49 yX4_weightAt, Cond.instanceMethod yX4_weightAt, Cond.selects RX4 yX4_weightAt yX4_weightAt, Cond.code yX4_weightAt cX4_weightAt 5 (some .int), Cond.methodLink RX4 58 yX4_pieceAt, Cond.instanceMethod yX4_pieceAt, Cond.selects RX4 yX4_pieceAt yX4_pieceAt, Cond.code yX4_pieceAt cX4_pieceAt 3 (some .int), Cond.methodLink RX1 41 yX1_layOut]
def wsX7_partsOfAll_r4 : List Cond := [Cond.instanceMethod yX1_layOut, Cond.selects RX1 yX1_layOut yX1_layOut, Cond.code yX1_layOut cX1_layOut 7 none, Cond.fieldLink RX1 53 "SyllableBook$BestCut" "parts" "I", Cond.fieldLink RX1 56 "SyllableBook$BestCut" "unseen" "I", Cond.fieldLink RX1 22 "SyllableBook$BestCut" "partPiece" "[I", Cond.fieldLink RX1 25 "SyllableBook$BestCut" "partPlace" "[I", Cond.fieldLink RX1 28 "SyllableBook$BestCut" "partLetters" "[I", Cond.methodLink RX1 59 yX4_pieceAt]
def wsX7_partsOfAll : List Cond := .code yX7_partsOfAll cX7_partsOfAll 3 (some .int) :: ((wsX7_partsOfAll_r1 ++ (wsX7_partsOfAll_r2 ++ (wsX7_partsOfAll_r3 ++ wsX7_partsOfAll_r4))) ++ wsX70 ++ wsX20 ++ wsX10 ++ wsX40)
def wsX7_count_r1 : List Cond := [Cond.fieldLink RX7 10 "SyllableBook" "contents" "LSyllableBook$Contents;", Cond.fieldLink RX7 96 "SyllableBook$Contents" "pieces" "I", Cond.fieldLink RX7 113 "SyllableBook$Contents" "words" "I", Cond.fieldLink RX7 37 "SyllableBook" "pad" "LSyllableBook$Pad;", Cond.fieldLink RX7 88 "SyllableBook$Pad" "length" "I", Cond.fieldLink RX7 30 "SyllableBook" "history" "LSyllableBook$History;", Cond.fieldLink RX7 232 "SyllableBook$History" "size" "I", Cond.methodLink RX7 168 yX7_costOfAll, Cond.instanceMethod yX7_costOfAll, Cond.selects RX7 yX7_costOfAll yX7_costOfAll, Cond.initialized RX7, Cond.code yX7_costOfAll cX7_costOfAll 4 (some .int), Cond.fieldLink RX7 51 "SyllableBook" "best" "LSyllableBook$BestCut;", Cond.fieldLink RX7 123 "SyllableBook$Contents" "wordCount" "[I", Cond.methodLink RX7 173 yX7_cutBest, Cond.instanceMethod yX7_cutBest, Cond.selects RX7 yX7_cutBest yX7_cutBest, Cond.code yX7_cutBest cX7_cutBest 3 none, Cond.fieldLink RX7 44 "SyllableBook" "lattice" "LSyllableBook$Lattice;", Cond.methodLink RX7 201 yX4_read, Cond.instanceMethod yX4_read, Cond.selects RX4 yX4_read yX4_read, Cond.initialized RX4, Cond.code yX4_read cX4_read 7 none]
def wsX7_count_r2 : List Cond := [Cond.fieldLink RX4 21 "SyllableBook$Contents" "wordLetters" "[I", Cond.fieldLink RX4 26 "SyllableBook$Lattice" "length" "I", Cond.fieldLink RX4 30 "SyllableBook$Contents" "pieceWeight" "[I", Cond.fieldLink RX4 18 "SyllableBook$Lattice" "weightOf" "[I", Cond.methodLink RX4 33 arraycopyName, Cond.native arraycopyName, Cond.static arraycopyName, Cond.initialized "java/lang/System", Cond.fieldLink RX4 9 "SyllableBook$Lattice" "text" "[I", Cond.fieldLink RX4 15 "SyllableBook$Lattice" "piece" "[I", Cond.methodLink RX4 39 yX4_mostLetters, Cond.instanceMethod yX4_mostLetters, Cond.selects RX4 yX4_mostLetters yX4_mostLetters, Cond.code yX4_mostLetters cX4_mostLetters 2 (some .int), Cond.methodLink RX4 53 Lib.Math.min.name, Cond.static Lib.Math.min.name, Cond.initialized "java/lang/Math", Cond.code Lib.Math.min.name Lib.Math.min.code 2 (some .int), Cond.methodLink RX4 43 yX2_letterAt, Cond.instanceMethod yX2_letterAt, Cond.selects RX2 yX2_letterAt yX2_letterAt, Cond.initialized RX2, Cond.code yX2_letterAt cX2_letterAt 3 (some .int), Cond.fieldLink RX2 27 "SyllableBook$Contents" "letters" "[I"]
def wsX7_count_r3 : List Cond := [Cond.methodLink RX4 47 yX4_index, Cond.static yX4_index, Cond.code yX4_index cX4_index 2 (some .int), Cond.methodLink RX4 50 yX2_pieceWith, Cond.instanceMethod yX2_pieceWith, Cond.selects RX2 yX2_pieceWith yX2_pieceWith, Cond.code yX2_pieceWith cX2_pieceWith 3 (some .int), Cond.fieldLink RX2 30 "SyllableBook$Contents" "pieces" "I", Cond.fieldLink RX2 9 "SyllableBook$Contents" "pieceText" "[I", Cond.methodLink RX7 259 yX1_find, Cond.instanceMethod yX1_find, Cond.selects RX1 yX1_find yX1_find, Cond.initialized RX1, Cond.code yX1_find cX1_find 4 none, Cond.fieldLink RX1 9 "SyllableBook$BestCut" "restProduct" "[J", Cond.fieldLink RX1 31 "SyllableBook$Lattice" "length" "I", Cond.fieldLink RX1 15 "SyllableBook$BestCut" "restParts" "[I", Cond.methodLink RX1 37 yX1_findFirst, Cond.instanceMethod yX1_findFirst, Cond.selects RX1 yX1_findFirst yX1_findFirst, Cond.code yX1_findFirst cX1_findFirst 10 none, Cond.fieldLink RX1 19 "SyllableBook$BestCut" "restFirst" "[I", Cond.methodLink RX1 45 yX4_mostLetters, Cond.methodLink RX1 49 yX4_weightAt]
def wsX7_count_r4 : List Cond := [Cond.instanceMethod yX4_weightAt, Cond.selects RX4 yX4_weightAt yX4_weightAt, Cond.code yX4_weightAt cX4_weightAt 5 (some .int), Cond.methodLink RX4 58 yX4_pieceAt, Cond.instanceMethod yX4_pieceAt, Cond.selects RX4 yX4_pieceAt yX4_pieceAt, Cond.code yX4_pieceAt cX4_pieceAt 3 (some .int), Cond.methodLink RX1 41 yX1_layOut, Cond.instanceMethod yX1_layOut, Cond.selects RX1 yX1_layOut yX1_layOut, Cond.code yX1_layOut cX1_layOut 7 none, Cond.fieldLink RX1 53 "SyllableBook$BestCut" "parts" "I", Cond.fieldLink RX1 56 "SyllableBook$BestCut" "unseen" "I", Cond.fieldLink RX1 22 "SyllableBook$BestCut" "partPiece" "[I", Cond.fieldLink RX1 25 "SyllableBook$BestCut" "partPlace" "[I", Cond.fieldLink RX1 28 "SyllableBook$BestCut" "partLetters" "[I", Cond.methodLink RX1 59 yX4_pieceAt, Cond.methodLink RX7 186 yX1_cost, Cond.instanceMethod yX1_cost, Cond.selects RX1 yX1_cost yX1_cost, Cond.code yX1_cost cX1_cost 1 (some .int), Cond.methodLink RX7 226 yX7_lettersOfAll, Cond.instanceMethod yX7_lettersOfAll, Cond.selects RX7 yX7_lettersOfAll yX7_lettersOfAll]
def wsX7_count_r5 : List Cond := [Cond.code yX7_lettersOfAll cX7_lettersOfAll 3 (some .int), Cond.fieldLink RX7 177 "SyllableBook$Contents" "wordLetters" "[I", Cond.methodLink RX7 229 yX7_partsOfAll, Cond.instanceMethod yX7_partsOfAll, Cond.selects RX7 yX7_partsOfAll yX7_partsOfAll, Cond.code yX7_partsOfAll cX7_partsOfAll 3 (some .int), Cond.fieldLink RX7 180 "SyllableBook$BestCut" "parts" "I"]
def wsX7_count : List Cond := .code yX7_count cX7_count 2 (some .int) :: ((wsX7_count_r1 ++ (wsX7_count_r2 ++ (wsX7_count_r3 ++ (wsX7_count_r4 ++ wsX7_count_r5)))) ++ wsX70 ++ wsX20 ++ wsX60 ++ wsX30 ++ wsX40 ++ wsX10)
def wsX7_costWith_r1 : List Cond := [Cond.fieldLink RX7 16 "SyllableBook" "trial" "LSyllableBook$Contents;", Cond.fieldLink RX7 10 "SyllableBook" "contents" "LSyllableBook$Contents;", Cond.fieldLink RX7 37 "SyllableBook" "pad" "LSyllableBook$Pad;", Cond.fieldLink RX7 88 "SyllableBook$Pad" "length" "I", Cond.methodLink RX7 76 yX7_newPieceError, Cond.instanceMethod yX7_newPieceError, Cond.selects RX7 yX7_newPieceError yX7_newPieceError, Cond.initialized RX7, Cond.code yX7_newPieceError cX7_newPieceError 2 (some .int), Cond.fieldLink RX7 96 "SyllableBook$Contents" "pieces" "I", Cond.methodLink RX7 110 yX6_holdsLetters, Cond.instanceMethod yX6_holdsLetters, Cond.selects RX6 yX6_holdsLetters yX6_holdsLetters, Cond.initialized RX6, Cond.code yX6_holdsLetters cX6_holdsLetters 2 (some .boolean), Cond.fieldLink RX6 15 "SyllableBook$Pad" "length" "I", Cond.methodLink RX6 23 yX6_firstNoLetter, Cond.instanceMethod yX6_firstNoLetter, Cond.selects RX6 yX6_firstNoLetter yX6_firstNoLetter, Cond.code yX6_firstNoLetter cX6_firstNoLetter 2 (some .int), Cond.methodLink RX6 19 yX6_letterAt, Cond.instanceMethod yX6_letterAt, Cond.selects RX6 yX6_letterAt yX6_letterAt, Cond.code yX6_letterAt cX6_letterAt 2 (some .int)]
def wsX7_costWith_r2 : List Cond := [Cond.fieldLink RX6 9 "SyllableBook$Pad" "codes" "[I", Cond.methodLink RX7 84 yX6_text, Cond.instanceMethod yX6_text, Cond.selects RX6 yX6_text yX6_text, Cond.code yX6_text cX6_text 3 (some .int), Cond.methodLink RX7 254 yX2_pieceWith, Cond.instanceMethod yX2_pieceWith, Cond.selects RX2 yX2_pieceWith yX2_pieceWith, Cond.initialized RX2, Cond.code yX2_pieceWith cX2_pieceWith 3 (some .int), Cond.fieldLink RX2 30 "SyllableBook$Contents" "pieces" "I", Cond.fieldLink RX2 9 "SyllableBook$Contents" "pieceText" "[I", Cond.methodLink RX7 235 yX2_copyFrom, Cond.instanceMethod yX2_copyFrom, Cond.selects RX2 yX2_copyFrom yX2_copyFrom, Cond.code yX2_copyFrom cX2_copyFrom 2 none, Cond.methodLink RX2 34 arraycopyName, Cond.native arraycopyName, Cond.static arraycopyName, Cond.initialized "java/lang/System", Cond.fieldLink RX2 15 "SyllableBook$Contents" "pieceLetters" "[I", Cond.fieldLink RX2 18 "SyllableBook$Contents" "pieceWeight" "[I", Cond.fieldLink RX2 40 "SyllableBook$Contents" "words" "I", Cond.fieldLink RX2 21 "SyllableBook$Contents" "wordLetters" "[I"]
def wsX7_costWith_r3 : List Cond := [Cond.fieldLink RX2 24 "SyllableBook$Contents" "wordCount" "[I", Cond.fieldLink RX2 27 "SyllableBook$Contents" "letters" "[I", Cond.methodLink RX7 92 yX2_addPiece, Cond.instanceMethod yX2_addPiece, Cond.selects RX2 yX2_addPiece yX2_addPiece, Cond.code yX2_addPiece cX2_addPiece 4 none, Cond.methodLink RX7 168 yX7_costOfAll, Cond.instanceMethod yX7_costOfAll, Cond.selects RX7 yX7_costOfAll yX7_costOfAll, Cond.code yX7_costOfAll cX7_costOfAll 4 (some .int), Cond.fieldLink RX7 113 "SyllableBook$Contents" "words" "I", Cond.fieldLink RX7 51 "SyllableBook" "best" "LSyllableBook$BestCut;", Cond.fieldLink RX7 123 "SyllableBook$Contents" "wordCount" "[I", Cond.methodLink RX7 173 yX7_cutBest, Cond.instanceMethod yX7_cutBest, Cond.selects RX7 yX7_cutBest yX7_cutBest, Cond.code yX7_cutBest cX7_cutBest 3 none, Cond.fieldLink RX7 44 "SyllableBook" "lattice" "LSyllableBook$Lattice;", Cond.methodLink RX7 201 yX4_read, Cond.instanceMethod yX4_read, Cond.selects RX4 yX4_read yX4_read, Cond.initialized RX4, Cond.code yX4_read cX4_read 7 none, Cond.fieldLink RX4 21 "SyllableBook$Contents" "wordLetters" "[I"]
def wsX7_costWith_r4 : List Cond := [Cond.fieldLink RX4 26 "SyllableBook$Lattice" "length" "I", Cond.fieldLink RX4 30 "SyllableBook$Contents" "pieceWeight" "[I", Cond.fieldLink RX4 18 "SyllableBook$Lattice" "weightOf" "[I", Cond.methodLink RX4 33 arraycopyName, Cond.fieldLink RX4 9 "SyllableBook$Lattice" "text" "[I", Cond.fieldLink RX4 15 "SyllableBook$Lattice" "piece" "[I", Cond.methodLink RX4 39 yX4_mostLetters, Cond.instanceMethod yX4_mostLetters, Cond.selects RX4 yX4_mostLetters yX4_mostLetters, Cond.code yX4_mostLetters cX4_mostLetters 2 (some .int), Cond.methodLink RX4 53 Lib.Math.min.name, Cond.static Lib.Math.min.name, Cond.initialized "java/lang/Math", Cond.code Lib.Math.min.name Lib.Math.min.code 2 (some .int), Cond.methodLink RX4 43 yX2_letterAt, Cond.instanceMethod yX2_letterAt, Cond.selects RX2 yX2_letterAt yX2_letterAt, Cond.code yX2_letterAt cX2_letterAt 3 (some .int), Cond.methodLink RX4 47 yX4_index, Cond.static yX4_index, Cond.code yX4_index cX4_index 2 (some .int), Cond.methodLink RX4 50 yX2_pieceWith, Cond.methodLink RX7 259 yX1_find, Cond.instanceMethod yX1_find]
def wsX7_costWith_r5 : List Cond := [Cond.selects RX1 yX1_find yX1_find, Cond.initialized RX1, Cond.code yX1_find cX1_find 4 none, Cond.fieldLink RX1 9 "SyllableBook$BestCut" "restProduct" "[J", Cond.fieldLink RX1 31 "SyllableBook$Lattice" "length" "I", Cond.fieldLink RX1 15 "SyllableBook$BestCut" "restParts" "[I", Cond.methodLink RX1 37 yX1_findFirst, Cond.instanceMethod yX1_findFirst, Cond.selects RX1 yX1_findFirst yX1_findFirst, Cond.code yX1_findFirst cX1_findFirst 10 none, Cond.fieldLink RX1 19 "SyllableBook$BestCut" "restFirst" "[I", Cond.methodLink RX1 45 yX4_mostLetters, Cond.methodLink RX1 49 yX4_weightAt, Cond.instanceMethod yX4_weightAt, Cond.selects RX4 yX4_weightAt yX4_weightAt, Cond.code yX4_weightAt cX4_weightAt 5 (some .int), Cond.methodLink RX4 58 yX4_pieceAt, Cond.instanceMethod yX4_pieceAt, Cond.selects RX4 yX4_pieceAt yX4_pieceAt, Cond.code yX4_pieceAt cX4_pieceAt 3 (some .int), Cond.methodLink RX1 41 yX1_layOut, Cond.instanceMethod yX1_layOut, Cond.selects RX1 yX1_layOut yX1_layOut, Cond.code yX1_layOut cX1_layOut 7 none]
def wsX7_costWith_r6 : List Cond := [Cond.fieldLink RX1 53 "SyllableBook$BestCut" "parts" "I", Cond.fieldLink RX1 56 "SyllableBook$BestCut" "unseen" "I", Cond.fieldLink RX1 22 "SyllableBook$BestCut" "partPiece" "[I", Cond.fieldLink RX1 25 "SyllableBook$BestCut" "partPlace" "[I", Cond.fieldLink RX1 28 "SyllableBook$BestCut" "partLetters" "[I", Cond.methodLink RX1 59 yX4_pieceAt, Cond.methodLink RX7 186 yX1_cost, Cond.instanceMethod yX1_cost, Cond.selects RX1 yX1_cost yX1_cost, Cond.code yX1_cost cX1_cost 1 (some .int)]
def wsX7_costWith : List Cond := .code yX7_costWith cX7_costWith 3 (some .int) :: ((wsX7_costWith_r1 ++ (wsX7_costWith_r2 ++ (wsX7_costWith_r3 ++ (wsX7_costWith_r4 ++ (wsX7_costWith_r5 ++ wsX7_costWith_r6))))) ++ wsX70 ++ wsX60 ++ wsX20 ++ wsX40 ++ wsX10)
def wsX7_growing_r1 : List Cond := [Cond.fieldLink RX7 65 "SyllableBook" "neighbours" "LSyllableBook$Neighbours;", Cond.fieldLink RX7 134 "SyllableBook$Neighbours" "letters" "[I", Cond.fieldLink RX7 238 "SyllableBook$Neighbours" "times" "[I", Cond.fieldLink RX7 137 "SyllableBook$Neighbours" "weight" "[I", Cond.fieldLink RX7 132 "SyllableBook$Neighbours" "text" "[I", Cond.methodLink RX7 129 yX7_findGrowing, Cond.instanceMethod yX7_findGrowing, Cond.selects RX7 yX7_findGrowing yX7_findGrowing, Cond.initialized RX7, Cond.code yX7_findGrowing cX7_findGrowing 6 (some .int), Cond.fieldLink RX7 268 "SyllableBook$Neighbours" "size" "I", Cond.fieldLink RX7 10 "SyllableBook" "contents" "LSyllableBook$Contents;", Cond.fieldLink RX7 113 "SyllableBook$Contents" "words" "I", Cond.fieldLink RX7 51 "SyllableBook" "best" "LSyllableBook$BestCut;", Cond.fieldLink RX7 180 "SyllableBook$BestCut" "parts" "I", Cond.fieldLink RX7 216 "SyllableBook$BestCut" "partPlace" "[I", Cond.fieldLink RX7 219 "SyllableBook$BestCut" "partLetters" "[I", Cond.fieldLink RX7 44 "SyllableBook" "lattice" "LSyllableBook$Lattice;", Cond.methodLink RX7 275 Lib.Math.min.name, Cond.static Lib.Math.min.name, Cond.initialized "java/lang/Math", Cond.code Lib.Math.min.name Lib.Math.min.code 2 (some .int), Cond.fieldLink RX7 123 "SyllableBook$Contents" "wordCount" "[I", Cond.methodLink RX7 173 yX7_cutBest]
def wsX7_growing_r2 : List Cond := [Cond.instanceMethod yX7_cutBest, Cond.selects RX7 yX7_cutBest yX7_cutBest, Cond.code yX7_cutBest cX7_cutBest 3 none, Cond.methodLink RX7 201 yX4_read, Cond.instanceMethod yX4_read, Cond.selects RX4 yX4_read yX4_read, Cond.initialized RX4, Cond.code yX4_read cX4_read 7 none, Cond.fieldLink RX4 21 "SyllableBook$Contents" "wordLetters" "[I", Cond.fieldLink RX4 26 "SyllableBook$Lattice" "length" "I", Cond.fieldLink RX4 30 "SyllableBook$Contents" "pieceWeight" "[I", Cond.fieldLink RX4 18 "SyllableBook$Lattice" "weightOf" "[I", Cond.methodLink RX4 33 arraycopyName, Cond.native arraycopyName, Cond.static arraycopyName, Cond.initialized "java/lang/System", Cond.fieldLink RX4 9 "SyllableBook$Lattice" "text" "[I", Cond.fieldLink RX4 15 "SyllableBook$Lattice" "piece" "[I", Cond.methodLink RX4 39 yX4_mostLetters, Cond.instanceMethod yX4_mostLetters, Cond.selects RX4 yX4_mostLetters yX4_mostLetters, Cond.code yX4_mostLetters cX4_mostLetters 2 (some .int), Cond.methodLink RX4 53 Lib.Math.min.name, Cond.methodLink RX4 43 yX2_letterAt]
def wsX7_growing_r3 : List Cond := [Cond.instanceMethod yX2_letterAt, Cond.selects RX2 yX2_letterAt yX2_letterAt, Cond.initialized RX2, Cond.code yX2_letterAt cX2_letterAt 3 (some .int), Cond.fieldLink RX2 27 "SyllableBook$Contents" "letters" "[I", Cond.methodLink RX4 47 yX4_index, Cond.static yX4_index, Cond.code yX4_index cX4_index 2 (some .int), Cond.methodLink RX4 50 yX2_pieceWith, Cond.instanceMethod yX2_pieceWith, Cond.selects RX2 yX2_pieceWith yX2_pieceWith, Cond.code yX2_pieceWith cX2_pieceWith 3 (some .int), Cond.fieldLink RX2 30 "SyllableBook$Contents" "pieces" "I", Cond.fieldLink RX2 9 "SyllableBook$Contents" "pieceText" "[I", Cond.methodLink RX7 259 yX1_find, Cond.instanceMethod yX1_find, Cond.selects RX1 yX1_find yX1_find, Cond.initialized RX1, Cond.code yX1_find cX1_find 4 none, Cond.fieldLink RX1 9 "SyllableBook$BestCut" "restProduct" "[J", Cond.fieldLink RX1 31 "SyllableBook$Lattice" "length" "I", Cond.fieldLink RX1 15 "SyllableBook$BestCut" "restParts" "[I", Cond.methodLink RX1 37 yX1_findFirst, Cond.instanceMethod yX1_findFirst]
def wsX7_growing_r4 : List Cond := [Cond.selects RX1 yX1_findFirst yX1_findFirst, Cond.code yX1_findFirst cX1_findFirst 10 none, Cond.fieldLink RX1 19 "SyllableBook$BestCut" "restFirst" "[I", Cond.methodLink RX1 45 yX4_mostLetters, Cond.methodLink RX1 49 yX4_weightAt, Cond.instanceMethod yX4_weightAt, Cond.selects RX4 yX4_weightAt yX4_weightAt, Cond.code yX4_weightAt cX4_weightAt 5 (some .int), Cond.methodLink RX4 58 yX4_pieceAt, Cond.instanceMethod yX4_pieceAt, Cond.selects RX4 yX4_pieceAt yX4_pieceAt, Cond.code yX4_pieceAt cX4_pieceAt 3 (some .int), Cond.methodLink RX1 41 yX1_layOut, Cond.instanceMethod yX1_layOut, Cond.selects RX1 yX1_layOut yX1_layOut, Cond.code yX1_layOut cX1_layOut 7 none, Cond.fieldLink RX1 53 "SyllableBook$BestCut" "parts" "I", Cond.fieldLink RX1 56 "SyllableBook$BestCut" "unseen" "I", Cond.fieldLink RX1 22 "SyllableBook$BestCut" "partPiece" "[I", Cond.fieldLink RX1 25 "SyllableBook$BestCut" "partPlace" "[I", Cond.fieldLink RX1 28 "SyllableBook$BestCut" "partLetters" "[I", Cond.methodLink RX1 59 yX4_pieceAt, Cond.methodLink RX7 269 yX4_pieceAt, Cond.methodLink RX7 272 yX7_partWeight]
def wsX7_growing_r5 : List Cond := [Cond.instanceMethod yX7_partWeight, Cond.selects RX7 yX7_partWeight yX7_partWeight, Cond.code yX7_partWeight cX7_partWeight 3 (some .int), Cond.fieldLink RX7 213 "SyllableBook$BestCut" "partPiece" "[I", Cond.fieldLink RX7 103 "SyllableBook$Contents" "pieceWeight" "[I", Cond.methodLink RX7 278 yX4_textAt, Cond.instanceMethod yX4_textAt, Cond.selects RX4 yX4_textAt yX4_textAt, Cond.code yX4_textAt cX4_textAt 3 (some .int), Cond.methodLink RX7 281 yX5_add, Cond.instanceMethod yX5_add, Cond.selects RX5 yX5_add yX5_add, Cond.initialized RX5, Cond.code yX5_add cX5_add 6 none, Cond.fieldLink RX5 24 "SyllableBook$Neighbours" "size" "I", Cond.fieldLink RX5 11 "SyllableBook$Neighbours" "text" "[I", Cond.fieldLink RX5 21 "SyllableBook$Neighbours" "times" "[I", Cond.fieldLink RX5 15 "SyllableBook$Neighbours" "letters" "[I", Cond.fieldLink RX5 18 "SyllableBook$Neighbours" "weight" "[I", Cond.methodLink RX7 285 yX5_mostFrequent, Cond.instanceMethod yX5_mostFrequent, Cond.selects RX5 yX5_mostFrequent yX5_mostFrequent, Cond.code yX5_mostFrequent cX5_mostFrequent 3 (some .int), Cond.methodLink RX7 158 yX7_letterOfText]
def wsX7_growing_r6 : List Cond := [Cond.static yX7_letterOfText, Cond.code yX7_letterOfText cX7_letterOfText 3 (some .int)]
def wsX7_growing : List Cond := .code yX7_growing cX7_growing 3 (some .int) :: ((wsX7_growing_r1 ++ (wsX7_growing_r2 ++ (wsX7_growing_r3 ++ (wsX7_growing_r4 ++ (wsX7_growing_r5 ++ wsX7_growing_r6))))) ++ wsX70 ++ wsX50 ++ wsX20 ++ wsX10 ++ wsX40)
def wsX7_least_r1 : List Cond := [Cond.methodLink RX7 149 yX7_findLeast, Cond.instanceMethod yX7_findLeast, Cond.selects RX7 yX7_findLeast yX7_findLeast, Cond.initialized RX7, Cond.code yX7_findLeast cX7_findLeast 3 (some .int), Cond.fieldLink RX7 10 "SyllableBook" "contents" "LSyllableBook$Contents;", Cond.fieldLink RX7 96 "SyllableBook$Contents" "pieces" "I", Cond.fieldLink RX7 73 "SyllableBook" "costWithout" "[I", Cond.fieldLink RX7 103 "SyllableBook$Contents" "pieceWeight" "[I", Cond.methodLink RX7 165 yX7_loseEach, Cond.instanceMethod yX7_loseEach, Cond.selects RX7 yX7_loseEach yX7_loseEach, Cond.code yX7_loseEach cX7_loseEach 3 none, Cond.fieldLink RX7 113 "SyllableBook$Contents" "words" "I", Cond.fieldLink RX7 44 "SyllableBook" "lattice" "LSyllableBook$Lattice;", Cond.fieldLink RX7 51 "SyllableBook" "best" "LSyllableBook$BestCut;", Cond.fieldLink RX7 123 "SyllableBook$Contents" "wordCount" "[I", Cond.methodLink RX7 262 yJ7_fill_53178, Cond.static yJ7_fill_53178, Cond.initialized RJ7, Cond.code yJ7_fill_53178 cJ7_fill_53178 4 none, Cond.methodLink RX7 201 yX4_read, Cond.instanceMethod yX4_read, Cond.selects RX4 yX4_read yX4_read]
def wsX7_least_r2 : List Cond := [Cond.initialized RX4, Cond.code yX4_read cX4_read 7 none, Cond.fieldLink RX4 21 "SyllableBook$Contents" "wordLetters" "[I", Cond.fieldLink RX4 26 "SyllableBook$Lattice" "length" "I", Cond.fieldLink RX4 30 "SyllableBook$Contents" "pieceWeight" "[I", Cond.fieldLink RX4 18 "SyllableBook$Lattice" "weightOf" "[I", Cond.methodLink RX4 33 arraycopyName, Cond.native arraycopyName, Cond.static arraycopyName, Cond.initialized "java/lang/System", Cond.fieldLink RX4 9 "SyllableBook$Lattice" "text" "[I", Cond.fieldLink RX4 15 "SyllableBook$Lattice" "piece" "[I", Cond.methodLink RX4 39 yX4_mostLetters, Cond.instanceMethod yX4_mostLetters, Cond.selects RX4 yX4_mostLetters yX4_mostLetters, Cond.code yX4_mostLetters cX4_mostLetters 2 (some .int), Cond.methodLink RX4 53 Lib.Math.min.name, Cond.static Lib.Math.min.name, Cond.initialized "java/lang/Math", Cond.code Lib.Math.min.name Lib.Math.min.code 2 (some .int), Cond.methodLink RX4 43 yX2_letterAt, Cond.instanceMethod yX2_letterAt, Cond.selects RX2 yX2_letterAt yX2_letterAt, Cond.initialized RX2]
def wsX7_least_r3 : List Cond := [Cond.code yX2_letterAt cX2_letterAt 3 (some .int), Cond.fieldLink RX2 27 "SyllableBook$Contents" "letters" "[I", Cond.methodLink RX4 47 yX4_index, Cond.static yX4_index, Cond.code yX4_index cX4_index 2 (some .int), Cond.methodLink RX4 50 yX2_pieceWith, Cond.instanceMethod yX2_pieceWith, Cond.selects RX2 yX2_pieceWith yX2_pieceWith, Cond.code yX2_pieceWith cX2_pieceWith 3 (some .int), Cond.fieldLink RX2 30 "SyllableBook$Contents" "pieces" "I", Cond.fieldLink RX2 9 "SyllableBook$Contents" "pieceText" "[I", Cond.methodLink RX7 259 yX1_find, Cond.instanceMethod yX1_find, Cond.selects RX1 yX1_find yX1_find, Cond.initialized RX1, Cond.code yX1_find cX1_find 4 none, Cond.fieldLink RX1 9 "SyllableBook$BestCut" "restProduct" "[J", Cond.fieldLink RX1 31 "SyllableBook$Lattice" "length" "I", Cond.fieldLink RX1 15 "SyllableBook$BestCut" "restParts" "[I", Cond.methodLink RX1 37 yX1_findFirst, Cond.instanceMethod yX1_findFirst, Cond.selects RX1 yX1_findFirst yX1_findFirst, Cond.code yX1_findFirst cX1_findFirst 10 none, Cond.fieldLink RX1 19 "SyllableBook$BestCut" "restFirst" "[I"]
def wsX7_least_r4 : List Cond := [Cond.methodLink RX1 45 yX4_mostLetters, Cond.methodLink RX1 49 yX4_weightAt, Cond.instanceMethod yX4_weightAt, Cond.selects RX4 yX4_weightAt yX4_weightAt, Cond.code yX4_weightAt cX4_weightAt 5 (some .int), Cond.methodLink RX4 58 yX4_pieceAt, Cond.instanceMethod yX4_pieceAt, Cond.selects RX4 yX4_pieceAt yX4_pieceAt, Cond.code yX4_pieceAt cX4_pieceAt 3 (some .int), Cond.methodLink RX1 41 yX1_layOut, Cond.instanceMethod yX1_layOut, Cond.selects RX1 yX1_layOut yX1_layOut, Cond.code yX1_layOut cX1_layOut 7 none, Cond.fieldLink RX1 53 "SyllableBook$BestCut" "parts" "I", Cond.fieldLink RX1 56 "SyllableBook$BestCut" "unseen" "I", Cond.fieldLink RX1 22 "SyllableBook$BestCut" "partPiece" "[I", Cond.fieldLink RX1 25 "SyllableBook$BestCut" "partPlace" "[I", Cond.fieldLink RX1 28 "SyllableBook$BestCut" "partLetters" "[I", Cond.methodLink RX1 59 yX4_pieceAt, Cond.methodLink RX7 186 yX1_cost, Cond.instanceMethod yX1_cost, Cond.selects RX1 yX1_cost yX1_cost, Cond.code yX1_cost cX1_cost 1 (some .int)]
def wsX7_least : List Cond := .code yX7_least cX7_least 2 (some .int) :: ((wsX7_least_r1 ++ (wsX7_least_r2 ++ (wsX7_least_r3 ++ wsX7_least_r4))) ++ wsX70 ++ wsX20 ++ wsX40 ++ wsX10)
def wsX7_charactersIn : List Cond := .code yX7_charactersIn cX7_charactersIn 7 (some .int) :: ([.constantLong RX7 257 (255)])
def wsX7_put : List Cond := .code yX7_put cX7_put 5 (some .int) :: ([.fieldLink RX7 37 "SyllableBook" "pad" "LSyllableBook$Pad;", .fieldLink RX7 88 "SyllableBook$Pad" "length" "I", .methodLink RX7 241 yX7_charactersIn, .static yX7_charactersIn, .initialized RX7, .code yX7_charactersIn cX7_charactersIn 7 (some .int), .constantLong RX7 257 (255), .methodLink RX7 245 yX6_append, .instanceMethod yX6_append, .selects RX6 yX6_append yX6_append, .initialized RX6, .code yX6_append cX6_append 2 none, .fieldLink RX6 15 "SyllableBook$Pad" "length" "I", .fieldLink RX6 9 "SyllableBook$Pad" "codes" "[I"] ++ wsX70 ++ wsX60)
def wsX7_wipe : List Cond := .code yX7_wipe cX7_wipe 2 (some .int) :: ([.fieldLink RX7 37 "SyllableBook" "pad" "LSyllableBook$Pad;", .fieldLink RX7 88 "SyllableBook$Pad" "length" "I"] ++ wsX70 ++ wsX60)
def wsX7_fault : List Cond := .code yX7_fault cX7_fault 2 (some .int) :: ([.fieldLink RX7 37 "SyllableBook" "pad" "LSyllableBook$Pad;", .fieldLink RX7 88 "SyllableBook$Pad" "length" "I", .methodLink RX7 248 yX6_firstNoLetter, .instanceMethod yX6_firstNoLetter, .selects RX6 yX6_firstNoLetter yX6_firstNoLetter, .initialized RX6, .code yX6_firstNoLetter cX6_firstNoLetter 2 (some .int), .fieldLink RX6 15 "SyllableBook$Pad" "length" "I", .methodLink RX6 19 yX6_letterAt, .instanceMethod yX6_letterAt, .selects RX6 yX6_letterAt yX6_letterAt, .code yX6_letterAt cX6_letterAt 2 (some .int), .fieldLink RX6 9 "SyllableBook$Pad" "codes" "[I"] ++ wsX70 ++ wsX60)
def wsX7_undo_r1 : List Cond := [Cond.fieldLink RX7 30 "SyllableBook" "history" "LSyllableBook$History;", Cond.fieldLink RX7 232 "SyllableBook$History" "size" "I", Cond.fieldLink RX7 10 "SyllableBook" "contents" "LSyllableBook$Contents;", Cond.methodLink RX7 251 yX3_takeBack, Cond.instanceMethod yX3_takeBack, Cond.selects RX3 yX3_takeBack yX3_takeBack, Cond.initialized RX3, Cond.code yX3_takeBack cX3_takeBack 2 none, Cond.fieldLink RX3 18 "SyllableBook$History" "size" "I", Cond.fieldLink RX3 11 "SyllableBook$History" "states" "[LSyllableBook$Contents;", Cond.methodLink RX3 25 yX2_copyFrom, Cond.instanceMethod yX2_copyFrom, Cond.selects RX2 yX2_copyFrom yX2_copyFrom, Cond.initialized RX2, Cond.code yX2_copyFrom cX2_copyFrom 2 none, Cond.fieldLink RX2 30 "SyllableBook$Contents" "pieces" "I", Cond.fieldLink RX2 9 "SyllableBook$Contents" "pieceText" "[I", Cond.methodLink RX2 34 arraycopyName, Cond.native arraycopyName, Cond.static arraycopyName, Cond.initialized "java/lang/System", Cond.fieldLink RX2 15 "SyllableBook$Contents" "pieceLetters" "[I", Cond.fieldLink RX2 18 "SyllableBook$Contents" "pieceWeight" "[I", Cond.fieldLink RX2 40 "SyllableBook$Contents" "words" "I"]
def wsX7_undo_r2 : List Cond := [Cond.fieldLink RX2 21 "SyllableBook$Contents" "wordLetters" "[I", Cond.fieldLink RX2 24 "SyllableBook$Contents" "wordCount" "[I", Cond.fieldLink RX2 27 "SyllableBook$Contents" "letters" "[I"]
def wsX7_undo : List Cond := .code yX7_undo cX7_undo 1 (some .int) :: ((wsX7_undo_r1 ++ wsX7_undo_r2) ++ wsX70 ++ wsX30 ++ wsX20)
def wsX7_save : List Cond := .code yX7_save cX7_save 2 (some .int) :: ([.fieldLink RX7 19 "SyllableBook" "slots" "[LSyllableBook$Contents;", .fieldLink RX7 10 "SyllableBook" "contents" "LSyllableBook$Contents;", .fieldLink RX7 23 "SyllableBook" "saved" "[Z", .fieldLink RX7 96 "SyllableBook$Contents" "pieces" "I", .methodLink RX7 235 yX2_copyFrom, .instanceMethod yX2_copyFrom, .selects RX2 yX2_copyFrom yX2_copyFrom, .initialized RX2, .code yX2_copyFrom cX2_copyFrom 2 none, .fieldLink RX2 30 "SyllableBook$Contents" "pieces" "I", .fieldLink RX2 9 "SyllableBook$Contents" "pieceText" "[I", .methodLink RX2 34 arraycopyName, .native arraycopyName, .static arraycopyName, .initialized "java/lang/System", .fieldLink RX2 15 "SyllableBook$Contents" "pieceLetters" "[I", .fieldLink RX2 18 "SyllableBook$Contents" "pieceWeight" "[I", .fieldLink RX2 40 "SyllableBook$Contents" "words" "I", .fieldLink RX2 21 "SyllableBook$Contents" "wordLetters" "[I", .fieldLink RX2 24 "SyllableBook$Contents" "wordCount" "[I", .fieldLink RX2 27 "SyllableBook$Contents" "letters" "[I"] ++ wsX70 ++ wsX20)
def wsX7_restore_r1 : List Cond := [Cond.fieldLink RX7 23 "SyllableBook" "saved" "[Z", Cond.fieldLink RX7 30 "SyllableBook" "history" "LSyllableBook$History;", Cond.fieldLink RX7 10 "SyllableBook" "contents" "LSyllableBook$Contents;", Cond.fieldLink RX7 19 "SyllableBook" "slots" "[LSyllableBook$Contents;", Cond.fieldLink RX7 96 "SyllableBook$Contents" "pieces" "I", Cond.methodLink RX7 80 yX3_record, Cond.instanceMethod yX3_record, Cond.selects RX3 yX3_record yX3_record, Cond.initialized RX3, Cond.code yX3_record cX3_record 2 none, Cond.fieldLink RX3 18 "SyllableBook$History" "size" "I", Cond.fieldLink RX3 11 "SyllableBook$History" "states" "[LSyllableBook$Contents;", Cond.methodLink RX3 22 yX3_dropOldest, Cond.instanceMethod yX3_dropOldest, Cond.selects RX3 yX3_dropOldest yX3_dropOldest, Cond.code yX3_dropOldest cX3_dropOldest 3 none, Cond.methodLink RX3 25 yX2_copyFrom, Cond.instanceMethod yX2_copyFrom, Cond.selects RX2 yX2_copyFrom yX2_copyFrom, Cond.initialized RX2, Cond.code yX2_copyFrom cX2_copyFrom 2 none, Cond.fieldLink RX2 30 "SyllableBook$Contents" "pieces" "I", Cond.fieldLink RX2 9 "SyllableBook$Contents" "pieceText" "[I", Cond.methodLink RX2 34 arraycopyName]
def wsX7_restore_r2 : List Cond := [Cond.native arraycopyName, Cond.static arraycopyName, Cond.initialized "java/lang/System", Cond.fieldLink RX2 15 "SyllableBook$Contents" "pieceLetters" "[I", Cond.fieldLink RX2 18 "SyllableBook$Contents" "pieceWeight" "[I", Cond.fieldLink RX2 40 "SyllableBook$Contents" "words" "I", Cond.fieldLink RX2 21 "SyllableBook$Contents" "wordLetters" "[I", Cond.fieldLink RX2 24 "SyllableBook$Contents" "wordCount" "[I", Cond.fieldLink RX2 27 "SyllableBook$Contents" "letters" "[I", Cond.methodLink RX7 235 yX2_copyFrom]
def wsX7_restore : List Cond := .code yX7_restore cX7_restore 2 (some .int) :: ((wsX7_restore_r1 ++ wsX7_restore_r2) ++ wsX70 ++ wsX20 ++ wsX30)
def wsX8_init : List Cond := .code yX8_init cX8_init 1 none :: ([.methodLink RX8 1 objectInit, .instanceMethod objectInit, .code objectInit ⟨#[0xb1]⟩ 1 none, .arrayClass .int, .fieldLink RX8 7 "SyllableBookModel" "state" "[I", .fieldLink RX8 13 "SyllableBookModel" "kept" "[I", .fieldLink RX8 16 "SyllableBookModel" "history" "[I", .fieldLink RX8 19 "SyllableBookModel" "slots" "[I", .fieldLink RX8 22 "SyllableBookModel" "isSaved" "[I", .fieldLink RX8 25 "SyllableBookModel" "pad" "[I", .arrayClass .long, .fieldLink RX8 28 "SyllableBookModel" "products" "[J", .fieldLink RX8 32 "SyllableBookModel" "parts" "[I", .fieldLink RX8 35 "SyllableBookModel" "lengths" "[I", .fieldLink RX8 38 "SyllableBookModel" "ahead" "[J", .fieldLink RX8 41 "SyllableBookModel" "behind" "[J", .fieldLink RX8 44 "SyllableBookModel" "texts" "[I", .fieldLink RX8 47 "SyllableBookModel" "counts" "[I", .fieldLink RX8 50 "SyllableBookModel" "weights" "[I", .fieldLink RX8 53 "SyllableBookModel" "bears" "[I"] ++ wsX80)
def wsX8_copy : List Cond := .code yX8_copy cX8_copy 5 none :: ([])
def wsX8_within : List Cond := .code yX8_within cX8_within 3 (some .boolean) :: ([])
def wsX8_record : List Cond := .code yX8_record cX8_record 2 none :: ([.fieldLink RX8 56 "SyllableBookModel" "recorded" "I", .fieldLink RX8 16 "SyllableBookModel" "history" "[I", .fieldLink RX8 7 "SyllableBookModel" "state" "[I", .methodLink RX8 60 yX8_copy, .static yX8_copy, .initialized RX8, .code yX8_copy cX8_copy 5 none] ++ wsX80)
def wsX8_isPiece : List Cond := .code yX8_isPiece cX8_isPiece 2 (some .boolean) :: ([.fieldLink RX8 7 "SyllableBookModel" "state" "[I", .methodLink RX8 64 yX8_within, .static yX8_within, .initialized RX8, .code yX8_within cX8_within 3 (some .boolean)] ++ wsX80)
def wsX8_isWord : List Cond := .code yX8_isWord cX8_isWord 2 (some .boolean) :: ([.fieldLink RX8 7 "SyllableBookModel" "state" "[I", .methodLink RX8 64 yX8_within, .static yX8_within, .initialized RX8, .code yX8_within cX8_within 3 (some .boolean)] ++ wsX80)
def wsX8_piecePart : List Cond := .code yX8_piecePart cX8_piecePart 3 (some .int) :: ([.fieldLink RX8 7 "SyllableBookModel" "state" "[I"] ++ wsX80)
def wsX8_wordPart : List Cond := .code yX8_wordPart cX8_wordPart 3 (some .int) :: ([.fieldLink RX8 7 "SyllableBookModel" "state" "[I"] ++ wsX80)
def wsX8_textOf : List Cond := .code yX8_textOf cX8_textOf 4 (some .int) :: ([.methodLink RX8 68 yX8_piecePart, .instanceMethod yX8_piecePart, .selects RX8 yX8_piecePart yX8_piecePart, .initialized RX8, .code yX8_piecePart cX8_piecePart 3 (some .int), .fieldLink RX8 7 "SyllableBookModel" "state" "[I"] ++ wsX80)
def wsX8_textIn : List Cond := .code yX8_textIn cX8_textIn 6 (some .int) :: ([.methodLink RX8 72 yX8_wordPart, .instanceMethod yX8_wordPart, .selects RX8 yX8_wordPart yX8_wordPart, .initialized RX8, .code yX8_wordPart cX8_wordPart 3 (some .int), .fieldLink RX8 7 "SyllableBookModel" "state" "[I"] ++ wsX80)
def wsX8_lengthOf : List Cond := .code yX8_lengthOf cX8_lengthOf 3 (some .int) :: ([])
def wsX8_letterOf : List Cond := .code yX8_letterOf cX8_letterOf 5 (some .int) :: ([.methodLink RX8 75 yX8_lengthOf, .static yX8_lengthOf, .initialized RX8, .code yX8_lengthOf cX8_lengthOf 3 (some .int)])
def wsX8_pieceOf : List Cond := .code yX8_pieceOf cX8_pieceOf 4 (some .int) :: ([.fieldLink RX8 7 "SyllableBookModel" "state" "[I", .methodLink RX8 79 yX8_textOf, .instanceMethod yX8_textOf, .selects RX8 yX8_textOf yX8_textOf, .initialized RX8, .code yX8_textOf cX8_textOf 4 (some .int), .methodLink RX8 68 yX8_piecePart, .instanceMethod yX8_piecePart, .selects RX8 yX8_piecePart yX8_piecePart, .code yX8_piecePart cX8_piecePart 3 (some .int)] ++ wsX80)
def wsX8_weightIn : List Cond := .code yX8_weightIn cX8_weightIn 5 (some .int) :: ([.methodLink RX8 82 yX8_textIn, .instanceMethod yX8_textIn, .selects RX8 yX8_textIn yX8_textIn, .initialized RX8, .code yX8_textIn cX8_textIn 6 (some .int), .methodLink RX8 72 yX8_wordPart, .instanceMethod yX8_wordPart, .selects RX8 yX8_wordPart yX8_wordPart, .code yX8_wordPart cX8_wordPart 3 (some .int), .fieldLink RX8 7 "SyllableBookModel" "state" "[I", .methodLink RX8 86 yX8_pieceOf, .instanceMethod yX8_pieceOf, .selects RX8 yX8_pieceOf yX8_pieceOf, .code yX8_pieceOf cX8_pieceOf 4 (some .int), .methodLink RX8 79 yX8_textOf, .instanceMethod yX8_textOf, .selects RX8 yX8_textOf yX8_textOf, .code yX8_textOf cX8_textOf 4 (some .int), .methodLink RX8 68 yX8_piecePart, .instanceMethod yX8_piecePart, .selects RX8 yX8_piecePart yX8_piecePart, .code yX8_piecePart cX8_piecePart 3 (some .int)] ++ wsX80)
def wsX8_longestAt : List Cond := .code yX8_longestAt cX8_longestAt 4 (some .int) :: ([.methodLink RX8 72 yX8_wordPart, .instanceMethod yX8_wordPart, .selects RX8 yX8_wordPart yX8_wordPart, .initialized RX8, .code yX8_wordPart cX8_wordPart 3 (some .int), .fieldLink RX8 7 "SyllableBookModel" "state" "[I"] ++ wsX80)
def wsX8_findCut_r1 : List Cond := [Cond.fieldLink RX8 28 "SyllableBookModel" "products" "[J", Cond.fieldLink RX8 32 "SyllableBookModel" "parts" "[I", Cond.fieldLink RX8 35 "SyllableBookModel" "lengths" "[I", Cond.methodLink RX8 72 yX8_wordPart, Cond.instanceMethod yX8_wordPart, Cond.selects RX8 yX8_wordPart yX8_wordPart, Cond.initialized RX8, Cond.code yX8_wordPart cX8_wordPart 3 (some .int), Cond.fieldLink RX8 7 "SyllableBookModel" "state" "[I", Cond.methodLink RX8 89 yX8_longestAt, Cond.instanceMethod yX8_longestAt, Cond.selects RX8 yX8_longestAt yX8_longestAt, Cond.code yX8_longestAt cX8_longestAt 4 (some .int), Cond.methodLink RX8 92 yX8_weightIn, Cond.instanceMethod yX8_weightIn, Cond.selects RX8 yX8_weightIn yX8_weightIn, Cond.code yX8_weightIn cX8_weightIn 5 (some .int), Cond.methodLink RX8 82 yX8_textIn, Cond.instanceMethod yX8_textIn, Cond.selects RX8 yX8_textIn yX8_textIn, Cond.code yX8_textIn cX8_textIn 6 (some .int), Cond.methodLink RX8 86 yX8_pieceOf, Cond.instanceMethod yX8_pieceOf, Cond.selects RX8 yX8_pieceOf yX8_pieceOf]
def wsX8_findCut_r2 : List Cond := [Cond.code yX8_pieceOf cX8_pieceOf 4 (some .int), Cond.methodLink RX8 79 yX8_textOf, Cond.instanceMethod yX8_textOf, Cond.selects RX8 yX8_textOf yX8_textOf, Cond.code yX8_textOf cX8_textOf 4 (some .int), Cond.methodLink RX8 68 yX8_piecePart, Cond.instanceMethod yX8_piecePart, Cond.selects RX8 yX8_piecePart yX8_piecePart, Cond.code yX8_piecePart cX8_piecePart 3 (some .int)]
def wsX8_findCut : List Cond := .code yX8_findCut cX8_findCut 9 none :: ((wsX8_findCut_r1 ++ wsX8_findCut_r2) ++ wsX80)
def wsX8_unseenIn : List Cond := .code yX8_unseenIn cX8_unseenIn 4 (some .int) :: ([.fieldLink RX8 35 "SyllableBookModel" "lengths" "[I", .methodLink RX8 72 yX8_wordPart, .instanceMethod yX8_wordPart, .selects RX8 yX8_wordPart yX8_wordPart, .initialized RX8, .code yX8_wordPart cX8_wordPart 3 (some .int), .fieldLink RX8 7 "SyllableBookModel" "state" "[I", .methodLink RX8 82 yX8_textIn, .instanceMethod yX8_textIn, .selects RX8 yX8_textIn yX8_textIn, .code yX8_textIn cX8_textIn 6 (some .int), .methodLink RX8 86 yX8_pieceOf, .instanceMethod yX8_pieceOf, .selects RX8 yX8_pieceOf yX8_pieceOf, .code yX8_pieceOf cX8_pieceOf 4 (some .int), .methodLink RX8 79 yX8_textOf, .instanceMethod yX8_textOf, .selects RX8 yX8_textOf yX8_textOf, .code yX8_textOf cX8_textOf 4 (some .int), .methodLink RX8 68 yX8_piecePart, .instanceMethod yX8_piecePart, .selects RX8 yX8_piecePart yX8_piecePart, .code yX8_piecePart cX8_piecePart 3 (some .int)] ++ wsX80)
def wsX8_costOf_r1 : List Cond := [Cond.fieldLink RX8 32 "SyllableBookModel" "parts" "[I", Cond.methodLink RX8 95 yX8_findCut, Cond.instanceMethod yX8_findCut, Cond.selects RX8 yX8_findCut yX8_findCut, Cond.initialized RX8, Cond.code yX8_findCut cX8_findCut 9 none, Cond.fieldLink RX8 28 "SyllableBookModel" "products" "[J", Cond.fieldLink RX8 35 "SyllableBookModel" "lengths" "[I", Cond.methodLink RX8 72 yX8_wordPart, Cond.instanceMethod yX8_wordPart, Cond.selects RX8 yX8_wordPart yX8_wordPart, Cond.code yX8_wordPart cX8_wordPart 3 (some .int), Cond.fieldLink RX8 7 "SyllableBookModel" "state" "[I", Cond.methodLink RX8 89 yX8_longestAt, Cond.instanceMethod yX8_longestAt, Cond.selects RX8 yX8_longestAt yX8_longestAt, Cond.code yX8_longestAt cX8_longestAt 4 (some .int), Cond.methodLink RX8 92 yX8_weightIn, Cond.instanceMethod yX8_weightIn, Cond.selects RX8 yX8_weightIn yX8_weightIn, Cond.code yX8_weightIn cX8_weightIn 5 (some .int), Cond.methodLink RX8 82 yX8_textIn, Cond.instanceMethod yX8_textIn, Cond.selects RX8 yX8_textIn yX8_textIn]
def wsX8_costOf_r2 : List Cond := [Cond.code yX8_textIn cX8_textIn 6 (some .int), Cond.methodLink RX8 86 yX8_pieceOf, Cond.instanceMethod yX8_pieceOf, Cond.selects RX8 yX8_pieceOf yX8_pieceOf, Cond.code yX8_pieceOf cX8_pieceOf 4 (some .int), Cond.methodLink RX8 79 yX8_textOf, Cond.instanceMethod yX8_textOf, Cond.selects RX8 yX8_textOf yX8_textOf, Cond.code yX8_textOf cX8_textOf 4 (some .int), Cond.methodLink RX8 68 yX8_piecePart, Cond.instanceMethod yX8_piecePart, Cond.selects RX8 yX8_piecePart yX8_piecePart, Cond.code yX8_piecePart cX8_piecePart 3 (some .int), Cond.methodLink RX8 99 yX8_unseenIn, Cond.instanceMethod yX8_unseenIn, Cond.selects RX8 yX8_unseenIn yX8_unseenIn, Cond.code yX8_unseenIn cX8_unseenIn 4 (some .int)]
def wsX8_costOf : List Cond := .code yX8_costOf cX8_costOf 2 (some .int) :: ((wsX8_costOf_r1 ++ wsX8_costOf_r2) ++ wsX80)
def wsX8_allCosts_r1 : List Cond := [Cond.fieldLink RX8 7 "SyllableBookModel" "state" "[I", Cond.methodLink RX8 102 yX8_costOf, Cond.instanceMethod yX8_costOf, Cond.selects RX8 yX8_costOf yX8_costOf, Cond.initialized RX8, Cond.code yX8_costOf cX8_costOf 2 (some .int), Cond.fieldLink RX8 32 "SyllableBookModel" "parts" "[I", Cond.methodLink RX8 95 yX8_findCut, Cond.instanceMethod yX8_findCut, Cond.selects RX8 yX8_findCut yX8_findCut, Cond.code yX8_findCut cX8_findCut 9 none, Cond.fieldLink RX8 28 "SyllableBookModel" "products" "[J", Cond.fieldLink RX8 35 "SyllableBookModel" "lengths" "[I", Cond.methodLink RX8 72 yX8_wordPart, Cond.instanceMethod yX8_wordPart, Cond.selects RX8 yX8_wordPart yX8_wordPart, Cond.code yX8_wordPart cX8_wordPart 3 (some .int), Cond.methodLink RX8 89 yX8_longestAt, Cond.instanceMethod yX8_longestAt, Cond.selects RX8 yX8_longestAt yX8_longestAt, Cond.code yX8_longestAt cX8_longestAt 4 (some .int), Cond.methodLink RX8 92 yX8_weightIn, Cond.instanceMethod yX8_weightIn, Cond.selects RX8 yX8_weightIn yX8_weightIn]
def wsX8_allCosts_r2 : List Cond := [Cond.code yX8_weightIn cX8_weightIn 5 (some .int), Cond.methodLink RX8 82 yX8_textIn, Cond.instanceMethod yX8_textIn, Cond.selects RX8 yX8_textIn yX8_textIn, Cond.code yX8_textIn cX8_textIn 6 (some .int), Cond.methodLink RX8 86 yX8_pieceOf, Cond.instanceMethod yX8_pieceOf, Cond.selects RX8 yX8_pieceOf yX8_pieceOf, Cond.code yX8_pieceOf cX8_pieceOf 4 (some .int), Cond.methodLink RX8 79 yX8_textOf, Cond.instanceMethod yX8_textOf, Cond.selects RX8 yX8_textOf yX8_textOf, Cond.code yX8_textOf cX8_textOf 4 (some .int), Cond.methodLink RX8 68 yX8_piecePart, Cond.instanceMethod yX8_piecePart, Cond.selects RX8 yX8_piecePart yX8_piecePart, Cond.code yX8_piecePart cX8_piecePart 3 (some .int), Cond.methodLink RX8 99 yX8_unseenIn, Cond.instanceMethod yX8_unseenIn, Cond.selects RX8 yX8_unseenIn yX8_unseenIn, Cond.code yX8_unseenIn cX8_unseenIn 4 (some .int)]
def wsX8_allCosts : List Cond := .code yX8_allCosts cX8_allCosts 3 (some .int) :: ((wsX8_allCosts_r1 ++ wsX8_allCosts_r2) ++ wsX80)
def wsX8_findTotals_r1 : List Cond := [Cond.fieldLink RX8 38 "SyllableBookModel" "ahead" "[J", Cond.fieldLink RX8 41 "SyllableBookModel" "behind" "[J", Cond.methodLink RX8 72 yX8_wordPart, Cond.instanceMethod yX8_wordPart, Cond.selects RX8 yX8_wordPart yX8_wordPart, Cond.initialized RX8, Cond.code yX8_wordPart cX8_wordPart 3 (some .int), Cond.fieldLink RX8 7 "SyllableBookModel" "state" "[I", Cond.methodLink RX8 89 yX8_longestAt, Cond.instanceMethod yX8_longestAt, Cond.selects RX8 yX8_longestAt yX8_longestAt, Cond.code yX8_longestAt cX8_longestAt 4 (some .int), Cond.methodLink RX8 92 yX8_weightIn, Cond.instanceMethod yX8_weightIn, Cond.selects RX8 yX8_weightIn yX8_weightIn, Cond.code yX8_weightIn cX8_weightIn 5 (some .int), Cond.methodLink RX8 82 yX8_textIn, Cond.instanceMethod yX8_textIn, Cond.selects RX8 yX8_textIn yX8_textIn, Cond.code yX8_textIn cX8_textIn 6 (some .int), Cond.methodLink RX8 86 yX8_pieceOf, Cond.instanceMethod yX8_pieceOf, Cond.selects RX8 yX8_pieceOf yX8_pieceOf, Cond.code yX8_pieceOf cX8_pieceOf 4 (some .int)]
def wsX8_findTotals_r2 : List Cond := [Cond.methodLink RX8 79 yX8_textOf, Cond.instanceMethod yX8_textOf, Cond.selects RX8 yX8_textOf yX8_textOf, Cond.code yX8_textOf cX8_textOf 4 (some .int), Cond.methodLink RX8 68 yX8_piecePart, Cond.instanceMethod yX8_piecePart, Cond.selects RX8 yX8_piecePart yX8_piecePart, Cond.code yX8_piecePart cX8_piecePart 3 (some .int)]
def wsX8_findTotals : List Cond := .code yX8_findTotals cX8_findTotals 5 none :: ((wsX8_findTotals_r1 ++ wsX8_findTotals_r2) ++ wsX80)
def wsX8_shareIn : List Cond := .code yX8_shareIn cX8_shareIn 8 (some .int) :: ([.fieldLink RX8 38 "SyllableBookModel" "ahead" "[J", .fieldLink RX8 41 "SyllableBookModel" "behind" "[J", .constantLong RX8 105 (1000), .methodLink RX8 68 yX8_piecePart, .instanceMethod yX8_piecePart, .selects RX8 yX8_piecePart yX8_piecePart, .initialized RX8, .code yX8_piecePart cX8_piecePart 3 (some .int), .fieldLink RX8 7 "SyllableBookModel" "state" "[I", .methodLink RX8 79 yX8_textOf, .instanceMethod yX8_textOf, .selects RX8 yX8_textOf yX8_textOf, .code yX8_textOf cX8_textOf 4 (some .int), .methodLink RX8 72 yX8_wordPart, .instanceMethod yX8_wordPart, .selects RX8 yX8_wordPart yX8_wordPart, .code yX8_wordPart cX8_wordPart 3 (some .int), .methodLink RX8 82 yX8_textIn, .instanceMethod yX8_textIn, .selects RX8 yX8_textIn yX8_textIn, .code yX8_textIn cX8_textIn 6 (some .int)] ++ wsX80)
def wsX8_cutsOf_r1 : List Cond := [Cond.fieldLink RX8 41 "SyllableBookModel" "behind" "[J", Cond.methodLink RX8 72 yX8_wordPart, Cond.instanceMethod yX8_wordPart, Cond.selects RX8 yX8_wordPart yX8_wordPart, Cond.initialized RX8, Cond.code yX8_wordPart cX8_wordPart 3 (some .int), Cond.fieldLink RX8 7 "SyllableBookModel" "state" "[I", Cond.methodLink RX8 89 yX8_longestAt, Cond.instanceMethod yX8_longestAt, Cond.selects RX8 yX8_longestAt yX8_longestAt, Cond.code yX8_longestAt cX8_longestAt 4 (some .int), Cond.methodLink RX8 92 yX8_weightIn, Cond.instanceMethod yX8_weightIn, Cond.selects RX8 yX8_weightIn yX8_weightIn, Cond.code yX8_weightIn cX8_weightIn 5 (some .int), Cond.methodLink RX8 82 yX8_textIn, Cond.instanceMethod yX8_textIn, Cond.selects RX8 yX8_textIn yX8_textIn, Cond.code yX8_textIn cX8_textIn 6 (some .int), Cond.methodLink RX8 86 yX8_pieceOf, Cond.instanceMethod yX8_pieceOf, Cond.selects RX8 yX8_pieceOf yX8_pieceOf, Cond.code yX8_pieceOf cX8_pieceOf 4 (some .int), Cond.methodLink RX8 79 yX8_textOf]
def wsX8_cutsOf_r2 : List Cond := [Cond.instanceMethod yX8_textOf, Cond.selects RX8 yX8_textOf yX8_textOf, Cond.code yX8_textOf cX8_textOf 4 (some .int), Cond.methodLink RX8 68 yX8_piecePart, Cond.instanceMethod yX8_piecePart, Cond.selects RX8 yX8_piecePart yX8_piecePart, Cond.code yX8_piecePart cX8_piecePart 3 (some .int)]
def wsX8_cutsOf : List Cond := .code yX8_cutsOf cX8_cutsOf 5 (some .int) :: ((wsX8_cutsOf_r1 ++ wsX8_cutsOf_r2) ++ wsX80)
def wsX8_findBears_r1 : List Cond := [Cond.fieldLink RX8 7 "SyllableBookModel" "state" "[I", Cond.fieldLink RX8 53 "SyllableBookModel" "bears" "[I", Cond.methodLink RX8 107 yX8_findTotals, Cond.instanceMethod yX8_findTotals, Cond.selects RX8 yX8_findTotals yX8_findTotals, Cond.initialized RX8, Cond.code yX8_findTotals cX8_findTotals 5 none, Cond.fieldLink RX8 38 "SyllableBookModel" "ahead" "[J", Cond.fieldLink RX8 41 "SyllableBookModel" "behind" "[J", Cond.methodLink RX8 72 yX8_wordPart, Cond.instanceMethod yX8_wordPart, Cond.selects RX8 yX8_wordPart yX8_wordPart, Cond.code yX8_wordPart cX8_wordPart 3 (some .int), Cond.methodLink RX8 89 yX8_longestAt, Cond.instanceMethod yX8_longestAt, Cond.selects RX8 yX8_longestAt yX8_longestAt, Cond.code yX8_longestAt cX8_longestAt 4 (some .int), Cond.methodLink RX8 92 yX8_weightIn, Cond.instanceMethod yX8_weightIn, Cond.selects RX8 yX8_weightIn yX8_weightIn, Cond.code yX8_weightIn cX8_weightIn 5 (some .int), Cond.methodLink RX8 82 yX8_textIn, Cond.instanceMethod yX8_textIn, Cond.selects RX8 yX8_textIn yX8_textIn]
def wsX8_findBears_r2 : List Cond := [Cond.code yX8_textIn cX8_textIn 6 (some .int), Cond.methodLink RX8 86 yX8_pieceOf, Cond.instanceMethod yX8_pieceOf, Cond.selects RX8 yX8_pieceOf yX8_pieceOf, Cond.code yX8_pieceOf cX8_pieceOf 4 (some .int), Cond.methodLink RX8 79 yX8_textOf, Cond.instanceMethod yX8_textOf, Cond.selects RX8 yX8_textOf yX8_textOf, Cond.code yX8_textOf cX8_textOf 4 (some .int), Cond.methodLink RX8 68 yX8_piecePart, Cond.instanceMethod yX8_piecePart, Cond.selects RX8 yX8_piecePart yX8_piecePart, Cond.code yX8_piecePart cX8_piecePart 3 (some .int), Cond.methodLink RX8 110 yX8_shareIn, Cond.instanceMethod yX8_shareIn, Cond.selects RX8 yX8_shareIn yX8_shareIn, Cond.code yX8_shareIn cX8_shareIn 8 (some .int), Cond.constantLong RX8 105 (1000)]
def wsX8_findBears : List Cond := .code yX8_findBears cX8_findBears 3 none :: ((wsX8_findBears_r1 ++ wsX8_findBears_r2) ++ wsX80)
def wsX8_dropPiece : List Cond := .code yX8_dropPiece cX8_dropPiece 3 none :: ([.fieldLink RX8 7 "SyllableBookModel" "state" "[I"] ++ wsX80)
def wsX8_lossOf_r1 : List Cond := [Cond.fieldLink RX8 7 "SyllableBookModel" "state" "[I", Cond.fieldLink RX8 13 "SyllableBookModel" "kept" "[I", Cond.methodLink RX8 113 yX8_allCosts, Cond.instanceMethod yX8_allCosts, Cond.selects RX8 yX8_allCosts yX8_allCosts, Cond.initialized RX8, Cond.code yX8_allCosts cX8_allCosts 3 (some .int), Cond.methodLink RX8 102 yX8_costOf, Cond.instanceMethod yX8_costOf, Cond.selects RX8 yX8_costOf yX8_costOf, Cond.code yX8_costOf cX8_costOf 2 (some .int), Cond.fieldLink RX8 32 "SyllableBookModel" "parts" "[I", Cond.methodLink RX8 95 yX8_findCut, Cond.instanceMethod yX8_findCut, Cond.selects RX8 yX8_findCut yX8_findCut, Cond.code yX8_findCut cX8_findCut 9 none, Cond.fieldLink RX8 28 "SyllableBookModel" "products" "[J", Cond.fieldLink RX8 35 "SyllableBookModel" "lengths" "[I", Cond.methodLink RX8 72 yX8_wordPart, Cond.instanceMethod yX8_wordPart, Cond.selects RX8 yX8_wordPart yX8_wordPart, Cond.code yX8_wordPart cX8_wordPart 3 (some .int), Cond.methodLink RX8 89 yX8_longestAt, Cond.instanceMethod yX8_longestAt]
def wsX8_lossOf_r2 : List Cond := [Cond.selects RX8 yX8_longestAt yX8_longestAt, Cond.code yX8_longestAt cX8_longestAt 4 (some .int), Cond.methodLink RX8 92 yX8_weightIn, Cond.instanceMethod yX8_weightIn, Cond.selects RX8 yX8_weightIn yX8_weightIn, Cond.code yX8_weightIn cX8_weightIn 5 (some .int), Cond.methodLink RX8 82 yX8_textIn, Cond.instanceMethod yX8_textIn, Cond.selects RX8 yX8_textIn yX8_textIn, Cond.code yX8_textIn cX8_textIn 6 (some .int), Cond.methodLink RX8 86 yX8_pieceOf, Cond.instanceMethod yX8_pieceOf, Cond.selects RX8 yX8_pieceOf yX8_pieceOf, Cond.code yX8_pieceOf cX8_pieceOf 4 (some .int), Cond.methodLink RX8 79 yX8_textOf, Cond.instanceMethod yX8_textOf, Cond.selects RX8 yX8_textOf yX8_textOf, Cond.code yX8_textOf cX8_textOf 4 (some .int), Cond.methodLink RX8 68 yX8_piecePart, Cond.instanceMethod yX8_piecePart, Cond.selects RX8 yX8_piecePart yX8_piecePart, Cond.code yX8_piecePart cX8_piecePart 3 (some .int), Cond.methodLink RX8 99 yX8_unseenIn, Cond.instanceMethod yX8_unseenIn]
def wsX8_lossOf_r3 : List Cond := [Cond.selects RX8 yX8_unseenIn yX8_unseenIn, Cond.code yX8_unseenIn cX8_unseenIn 4 (some .int), Cond.methodLink RX8 60 yX8_copy, Cond.static yX8_copy, Cond.code yX8_copy cX8_copy 5 none, Cond.methodLink RX8 117 yX8_dropPiece, Cond.instanceMethod yX8_dropPiece, Cond.selects RX8 yX8_dropPiece yX8_dropPiece, Cond.code yX8_dropPiece cX8_dropPiece 3 none]
def wsX8_lossOf : List Cond := .code yX8_lossOf cX8_lossOf 4 (some .int) :: ((wsX8_lossOf_r1 ++ (wsX8_lossOf_r2 ++ wsX8_lossOf_r3)) ++ wsX80)
def wsX8_leastOf_r1 : List Cond := [Cond.fieldLink RX8 7 "SyllableBookModel" "state" "[I", Cond.methodLink RX8 120 yX8_lossOf, Cond.instanceMethod yX8_lossOf, Cond.selects RX8 yX8_lossOf yX8_lossOf, Cond.initialized RX8, Cond.code yX8_lossOf cX8_lossOf 4 (some .int), Cond.fieldLink RX8 13 "SyllableBookModel" "kept" "[I", Cond.methodLink RX8 113 yX8_allCosts, Cond.instanceMethod yX8_allCosts, Cond.selects RX8 yX8_allCosts yX8_allCosts, Cond.code yX8_allCosts cX8_allCosts 3 (some .int), Cond.methodLink RX8 102 yX8_costOf, Cond.instanceMethod yX8_costOf, Cond.selects RX8 yX8_costOf yX8_costOf, Cond.code yX8_costOf cX8_costOf 2 (some .int), Cond.fieldLink RX8 32 "SyllableBookModel" "parts" "[I", Cond.methodLink RX8 95 yX8_findCut, Cond.instanceMethod yX8_findCut, Cond.selects RX8 yX8_findCut yX8_findCut, Cond.code yX8_findCut cX8_findCut 9 none, Cond.fieldLink RX8 28 "SyllableBookModel" "products" "[J", Cond.fieldLink RX8 35 "SyllableBookModel" "lengths" "[I", Cond.methodLink RX8 72 yX8_wordPart, Cond.instanceMethod yX8_wordPart]
def wsX8_leastOf_r2 : List Cond := [Cond.selects RX8 yX8_wordPart yX8_wordPart, Cond.code yX8_wordPart cX8_wordPart 3 (some .int), Cond.methodLink RX8 89 yX8_longestAt, Cond.instanceMethod yX8_longestAt, Cond.selects RX8 yX8_longestAt yX8_longestAt, Cond.code yX8_longestAt cX8_longestAt 4 (some .int), Cond.methodLink RX8 92 yX8_weightIn, Cond.instanceMethod yX8_weightIn, Cond.selects RX8 yX8_weightIn yX8_weightIn, Cond.code yX8_weightIn cX8_weightIn 5 (some .int), Cond.methodLink RX8 82 yX8_textIn, Cond.instanceMethod yX8_textIn, Cond.selects RX8 yX8_textIn yX8_textIn, Cond.code yX8_textIn cX8_textIn 6 (some .int), Cond.methodLink RX8 86 yX8_pieceOf, Cond.instanceMethod yX8_pieceOf, Cond.selects RX8 yX8_pieceOf yX8_pieceOf, Cond.code yX8_pieceOf cX8_pieceOf 4 (some .int), Cond.methodLink RX8 79 yX8_textOf, Cond.instanceMethod yX8_textOf, Cond.selects RX8 yX8_textOf yX8_textOf, Cond.code yX8_textOf cX8_textOf 4 (some .int), Cond.methodLink RX8 68 yX8_piecePart, Cond.instanceMethod yX8_piecePart]
def wsX8_leastOf_r3 : List Cond := [Cond.selects RX8 yX8_piecePart yX8_piecePart, Cond.code yX8_piecePart cX8_piecePart 3 (some .int), Cond.methodLink RX8 99 yX8_unseenIn, Cond.instanceMethod yX8_unseenIn, Cond.selects RX8 yX8_unseenIn yX8_unseenIn, Cond.code yX8_unseenIn cX8_unseenIn 4 (some .int), Cond.methodLink RX8 60 yX8_copy, Cond.static yX8_copy, Cond.code yX8_copy cX8_copy 5 none, Cond.methodLink RX8 117 yX8_dropPiece, Cond.instanceMethod yX8_dropPiece, Cond.selects RX8 yX8_dropPiece yX8_dropPiece, Cond.code yX8_dropPiece cX8_dropPiece 3 none]
def wsX8_leastOf : List Cond := .code yX8_leastOf cX8_leastOf 6 (some .int) :: ((wsX8_leastOf_r1 ++ (wsX8_leastOf_r2 ++ wsX8_leastOf_r3)) ++ wsX80)
def wsX8_addPiece : List Cond := .code yX8_addPiece cX8_addPiece 7 (some .int) :: ([.fieldLink RX8 7 "SyllableBookModel" "state" "[I", .methodLink RX8 75 yX8_lengthOf, .static yX8_lengthOf, .initialized RX8, .code yX8_lengthOf cX8_lengthOf 3 (some .int), .methodLink RX8 123 yX8_letterOf, .static yX8_letterOf, .code yX8_letterOf cX8_letterOf 5 (some .int)] ++ wsX80)
def wsX8_findNeighbours_r1 : List Cond := [Cond.fieldLink RX8 126 "SyllableBookModel" "neighbours" "I", Cond.fieldLink RX8 7 "SyllableBookModel" "state" "[I", Cond.fieldLink RX8 35 "SyllableBookModel" "lengths" "[I", Cond.fieldLink RX8 44 "SyllableBookModel" "texts" "[I", Cond.fieldLink RX8 47 "SyllableBookModel" "counts" "[I", Cond.fieldLink RX8 50 "SyllableBookModel" "weights" "[I", Cond.methodLink RX8 95 yX8_findCut, Cond.instanceMethod yX8_findCut, Cond.selects RX8 yX8_findCut yX8_findCut, Cond.initialized RX8, Cond.code yX8_findCut cX8_findCut 9 none, Cond.fieldLink RX8 28 "SyllableBookModel" "products" "[J", Cond.fieldLink RX8 32 "SyllableBookModel" "parts" "[I", Cond.methodLink RX8 72 yX8_wordPart, Cond.instanceMethod yX8_wordPart, Cond.selects RX8 yX8_wordPart yX8_wordPart, Cond.code yX8_wordPart cX8_wordPart 3 (some .int), Cond.methodLink RX8 89 yX8_longestAt, Cond.instanceMethod yX8_longestAt, Cond.selects RX8 yX8_longestAt yX8_longestAt, Cond.code yX8_longestAt cX8_longestAt 4 (some .int), Cond.methodLink RX8 92 yX8_weightIn, Cond.instanceMethod yX8_weightIn, Cond.selects RX8 yX8_weightIn yX8_weightIn]
def wsX8_findNeighbours_r2 : List Cond := [Cond.code yX8_weightIn cX8_weightIn 5 (some .int), Cond.methodLink RX8 82 yX8_textIn, Cond.instanceMethod yX8_textIn, Cond.selects RX8 yX8_textIn yX8_textIn, Cond.code yX8_textIn cX8_textIn 6 (some .int), Cond.methodLink RX8 86 yX8_pieceOf, Cond.instanceMethod yX8_pieceOf, Cond.selects RX8 yX8_pieceOf yX8_pieceOf, Cond.code yX8_pieceOf cX8_pieceOf 4 (some .int), Cond.methodLink RX8 79 yX8_textOf, Cond.instanceMethod yX8_textOf, Cond.selects RX8 yX8_textOf yX8_textOf, Cond.code yX8_textOf cX8_textOf 4 (some .int), Cond.methodLink RX8 68 yX8_piecePart, Cond.instanceMethod yX8_piecePart, Cond.selects RX8 yX8_piecePart yX8_piecePart, Cond.code yX8_piecePart cX8_piecePart 3 (some .int)]
def wsX8_findNeighbours : List Cond := .code yX8_findNeighbours cX8_findNeighbours 9 none :: ((wsX8_findNeighbours_r1 ++ wsX8_findNeighbours_r2) ++ wsX80)
def wsX8_standsSo : List Cond := .code yX8_standsSo cX8_standsSo 4 (some .int) :: ([.fieldLink RX8 126 "SyllableBookModel" "neighbours" "I", .fieldLink RX8 44 "SyllableBookModel" "texts" "[I", .fieldLink RX8 47 "SyllableBookModel" "counts" "[I"] ++ wsX80)
def wsX8_growsAt_r1 : List Cond := [Cond.fieldLink RX8 126 "SyllableBookModel" "neighbours" "I", Cond.fieldLink RX8 44 "SyllableBookModel" "texts" "[I", Cond.methodLink RX8 129 yX8_findNeighbours, Cond.instanceMethod yX8_findNeighbours, Cond.selects RX8 yX8_findNeighbours yX8_findNeighbours, Cond.initialized RX8, Cond.code yX8_findNeighbours cX8_findNeighbours 9 none, Cond.fieldLink RX8 7 "SyllableBookModel" "state" "[I", Cond.fieldLink RX8 35 "SyllableBookModel" "lengths" "[I", Cond.fieldLink RX8 47 "SyllableBookModel" "counts" "[I", Cond.fieldLink RX8 50 "SyllableBookModel" "weights" "[I", Cond.methodLink RX8 95 yX8_findCut, Cond.instanceMethod yX8_findCut, Cond.selects RX8 yX8_findCut yX8_findCut, Cond.code yX8_findCut cX8_findCut 9 none, Cond.fieldLink RX8 28 "SyllableBookModel" "products" "[J", Cond.fieldLink RX8 32 "SyllableBookModel" "parts" "[I", Cond.methodLink RX8 72 yX8_wordPart, Cond.instanceMethod yX8_wordPart, Cond.selects RX8 yX8_wordPart yX8_wordPart, Cond.code yX8_wordPart cX8_wordPart 3 (some .int), Cond.methodLink RX8 89 yX8_longestAt, Cond.instanceMethod yX8_longestAt, Cond.selects RX8 yX8_longestAt yX8_longestAt]
def wsX8_growsAt_r2 : List Cond := [Cond.code yX8_longestAt cX8_longestAt 4 (some .int), Cond.methodLink RX8 92 yX8_weightIn, Cond.instanceMethod yX8_weightIn, Cond.selects RX8 yX8_weightIn yX8_weightIn, Cond.code yX8_weightIn cX8_weightIn 5 (some .int), Cond.methodLink RX8 82 yX8_textIn, Cond.instanceMethod yX8_textIn, Cond.selects RX8 yX8_textIn yX8_textIn, Cond.code yX8_textIn cX8_textIn 6 (some .int), Cond.methodLink RX8 86 yX8_pieceOf, Cond.instanceMethod yX8_pieceOf, Cond.selects RX8 yX8_pieceOf yX8_pieceOf, Cond.code yX8_pieceOf cX8_pieceOf 4 (some .int), Cond.methodLink RX8 79 yX8_textOf, Cond.instanceMethod yX8_textOf, Cond.selects RX8 yX8_textOf yX8_textOf, Cond.code yX8_textOf cX8_textOf 4 (some .int), Cond.methodLink RX8 68 yX8_piecePart, Cond.instanceMethod yX8_piecePart, Cond.selects RX8 yX8_piecePart yX8_piecePart, Cond.code yX8_piecePart cX8_piecePart 3 (some .int), Cond.methodLink RX8 132 yX8_standsSo, Cond.instanceMethod yX8_standsSo, Cond.selects RX8 yX8_standsSo yX8_standsSo]
def wsX8_growsAt_r3 : List Cond := [Cond.code yX8_standsSo cX8_standsSo 4 (some .int)]
def wsX8_growsAt : List Cond := .code yX8_growsAt cX8_growsAt 6 (some .int) :: ((wsX8_growsAt_r1 ++ (wsX8_growsAt_r2 ++ wsX8_growsAt_r3)) ++ wsX80)
def wsX8_padText : List Cond := .code yX8_padText cX8_padText 5 (some .int) :: ([.fieldLink RX8 135 "SyllableBookModel" "padLength" "I", .fieldLink RX8 25 "SyllableBookModel" "pad" "[I", .methodLink RX8 64 yX8_within, .static yX8_within, .initialized RX8, .code yX8_within cX8_within 3 (some .boolean)] ++ wsX80)
def wsX8_whyNoPiece : List Cond := .code yX8_whyNoPiece cX8_whyNoPiece 3 (some .int) :: ([.fieldLink RX8 7 "SyllableBookModel" "state" "[I", .methodLink RX8 138 yX8_padText, .instanceMethod yX8_padText, .selects RX8 yX8_padText yX8_padText, .initialized RX8, .code yX8_padText cX8_padText 5 (some .int), .fieldLink RX8 135 "SyllableBookModel" "padLength" "I", .fieldLink RX8 25 "SyllableBookModel" "pad" "[I", .methodLink RX8 64 yX8_within, .static yX8_within, .code yX8_within cX8_within 3 (some .boolean), .methodLink RX8 86 yX8_pieceOf, .instanceMethod yX8_pieceOf, .selects RX8 yX8_pieceOf yX8_pieceOf, .code yX8_pieceOf cX8_pieceOf 4 (some .int), .methodLink RX8 79 yX8_textOf, .instanceMethod yX8_textOf, .selects RX8 yX8_textOf yX8_textOf, .code yX8_textOf cX8_textOf 4 (some .int), .methodLink RX8 68 yX8_piecePart, .instanceMethod yX8_piecePart, .selects RX8 yX8_piecePart yX8_piecePart, .code yX8_piecePart cX8_piecePart 3 (some .int)] ++ wsX80)
def wsX8_piece_r1 : List Cond := [Cond.fieldLink RX8 135 "SyllableBookModel" "padLength" "I", Cond.methodLink RX8 141 yX8_whyNoPiece, Cond.instanceMethod yX8_whyNoPiece, Cond.selects RX8 yX8_whyNoPiece yX8_whyNoPiece, Cond.initialized RX8, Cond.code yX8_whyNoPiece cX8_whyNoPiece 3 (some .int), Cond.fieldLink RX8 7 "SyllableBookModel" "state" "[I", Cond.methodLink RX8 138 yX8_padText, Cond.instanceMethod yX8_padText, Cond.selects RX8 yX8_padText yX8_padText, Cond.code yX8_padText cX8_padText 5 (some .int), Cond.fieldLink RX8 25 "SyllableBookModel" "pad" "[I", Cond.methodLink RX8 64 yX8_within, Cond.static yX8_within, Cond.code yX8_within cX8_within 3 (some .boolean), Cond.methodLink RX8 86 yX8_pieceOf, Cond.instanceMethod yX8_pieceOf, Cond.selects RX8 yX8_pieceOf yX8_pieceOf, Cond.code yX8_pieceOf cX8_pieceOf 4 (some .int), Cond.methodLink RX8 79 yX8_textOf, Cond.instanceMethod yX8_textOf, Cond.selects RX8 yX8_textOf yX8_textOf, Cond.code yX8_textOf cX8_textOf 4 (some .int), Cond.methodLink RX8 68 yX8_piecePart]
def wsX8_piece_r2 : List Cond := [Cond.instanceMethod yX8_piecePart, Cond.selects RX8 yX8_piecePart yX8_piecePart, Cond.code yX8_piecePart cX8_piecePart 3 (some .int), Cond.methodLink RX8 144 yX8_record, Cond.instanceMethod yX8_record, Cond.selects RX8 yX8_record yX8_record, Cond.code yX8_record cX8_record 2 none, Cond.fieldLink RX8 56 "SyllableBookModel" "recorded" "I", Cond.fieldLink RX8 16 "SyllableBookModel" "history" "[I", Cond.methodLink RX8 60 yX8_copy, Cond.static yX8_copy, Cond.code yX8_copy cX8_copy 5 none, Cond.methodLink RX8 147 yX8_addPiece, Cond.instanceMethod yX8_addPiece, Cond.selects RX8 yX8_addPiece yX8_addPiece, Cond.code yX8_addPiece cX8_addPiece 7 (some .int), Cond.methodLink RX8 75 yX8_lengthOf, Cond.static yX8_lengthOf, Cond.code yX8_lengthOf cX8_lengthOf 3 (some .int), Cond.methodLink RX8 123 yX8_letterOf, Cond.static yX8_letterOf, Cond.code yX8_letterOf cX8_letterOf 5 (some .int)]
def wsX8_piece : List Cond := .code yX8_piece cX8_piece 4 (some .int) :: ((wsX8_piece_r1 ++ wsX8_piece_r2) ++ wsX80)
def wsX8_weigh : List Cond := .code yX8_weigh cX8_weigh 4 (some .int) :: ([.fieldLink RX8 7 "SyllableBookModel" "state" "[I", .methodLink RX8 150 yX8_isPiece, .instanceMethod yX8_isPiece, .selects RX8 yX8_isPiece yX8_isPiece, .initialized RX8, .code yX8_isPiece cX8_isPiece 2 (some .boolean), .methodLink RX8 64 yX8_within, .static yX8_within, .code yX8_within cX8_within 3 (some .boolean), .methodLink RX8 144 yX8_record, .instanceMethod yX8_record, .selects RX8 yX8_record yX8_record, .code yX8_record cX8_record 2 none, .fieldLink RX8 56 "SyllableBookModel" "recorded" "I", .fieldLink RX8 16 "SyllableBookModel" "history" "[I", .methodLink RX8 60 yX8_copy, .static yX8_copy, .code yX8_copy cX8_copy 5 none, .methodLink RX8 68 yX8_piecePart, .instanceMethod yX8_piecePart, .selects RX8 yX8_piecePart yX8_piecePart, .code yX8_piecePart cX8_piecePart 3 (some .int)] ++ wsX80)
def wsX8_drop : List Cond := .code yX8_drop cX8_drop 2 (some .int) :: ([.fieldLink RX8 7 "SyllableBookModel" "state" "[I", .methodLink RX8 150 yX8_isPiece, .instanceMethod yX8_isPiece, .selects RX8 yX8_isPiece yX8_isPiece, .initialized RX8, .code yX8_isPiece cX8_isPiece 2 (some .boolean), .methodLink RX8 64 yX8_within, .static yX8_within, .code yX8_within cX8_within 3 (some .boolean), .methodLink RX8 144 yX8_record, .instanceMethod yX8_record, .selects RX8 yX8_record yX8_record, .code yX8_record cX8_record 2 none, .fieldLink RX8 56 "SyllableBookModel" "recorded" "I", .fieldLink RX8 16 "SyllableBookModel" "history" "[I", .methodLink RX8 60 yX8_copy, .static yX8_copy, .code yX8_copy cX8_copy 5 none, .methodLink RX8 117 yX8_dropPiece, .instanceMethod yX8_dropPiece, .selects RX8 yX8_dropPiece yX8_dropPiece, .code yX8_dropPiece cX8_dropPiece 3 none] ++ wsX80)
def wsX8_word : List Cond := .code yX8_word cX8_word 5 (some .int) :: ([.fieldLink RX8 7 "SyllableBookModel" "state" "[I", .fieldLink RX8 135 "SyllableBookModel" "padLength" "I", .fieldLink RX8 25 "SyllableBookModel" "pad" "[I", .methodLink RX8 138 yX8_padText, .instanceMethod yX8_padText, .selects RX8 yX8_padText yX8_padText, .initialized RX8, .code yX8_padText cX8_padText 5 (some .int), .methodLink RX8 64 yX8_within, .static yX8_within, .code yX8_within cX8_within 3 (some .boolean), .methodLink RX8 144 yX8_record, .instanceMethod yX8_record, .selects RX8 yX8_record yX8_record, .code yX8_record cX8_record 2 none, .fieldLink RX8 56 "SyllableBookModel" "recorded" "I", .fieldLink RX8 16 "SyllableBookModel" "history" "[I", .methodLink RX8 60 yX8_copy, .static yX8_copy, .code yX8_copy cX8_copy 5 none] ++ wsX80)
def wsX8_recount : List Cond := .code yX8_recount cX8_recount 4 (some .int) :: ([.fieldLink RX8 7 "SyllableBookModel" "state" "[I", .methodLink RX8 154 yX8_isWord, .instanceMethod yX8_isWord, .selects RX8 yX8_isWord yX8_isWord, .initialized RX8, .code yX8_isWord cX8_isWord 2 (some .boolean), .methodLink RX8 64 yX8_within, .static yX8_within, .code yX8_within cX8_within 3 (some .boolean), .methodLink RX8 144 yX8_record, .instanceMethod yX8_record, .selects RX8 yX8_record yX8_record, .code yX8_record cX8_record 2 none, .fieldLink RX8 56 "SyllableBookModel" "recorded" "I", .fieldLink RX8 16 "SyllableBookModel" "history" "[I", .methodLink RX8 60 yX8_copy, .static yX8_copy, .code yX8_copy cX8_copy 5 none, .methodLink RX8 72 yX8_wordPart, .instanceMethod yX8_wordPart, .selects RX8 yX8_wordPart yX8_wordPart, .code yX8_wordPart cX8_wordPart 3 (some .int)] ++ wsX80)
def wsX8_forget : List Cond := .code yX8_forget cX8_forget 3 (some .int) :: ([.fieldLink RX8 7 "SyllableBookModel" "state" "[I", .methodLink RX8 154 yX8_isWord, .instanceMethod yX8_isWord, .selects RX8 yX8_isWord yX8_isWord, .initialized RX8, .code yX8_isWord cX8_isWord 2 (some .boolean), .methodLink RX8 64 yX8_within, .static yX8_within, .code yX8_within cX8_within 3 (some .boolean), .methodLink RX8 144 yX8_record, .instanceMethod yX8_record, .selects RX8 yX8_record yX8_record, .code yX8_record cX8_record 2 none, .fieldLink RX8 56 "SyllableBookModel" "recorded" "I", .fieldLink RX8 16 "SyllableBookModel" "history" "[I", .methodLink RX8 60 yX8_copy, .static yX8_copy, .code yX8_copy cX8_copy 5 none] ++ wsX80)
def wsX8_grow_r1 : List Cond := [Cond.fieldLink RX8 7 "SyllableBookModel" "state" "[I", Cond.fieldLink RX8 44 "SyllableBookModel" "texts" "[I", Cond.fieldLink RX8 50 "SyllableBookModel" "weights" "[I", Cond.methodLink RX8 157 yX8_growsAt, Cond.instanceMethod yX8_growsAt, Cond.selects RX8 yX8_growsAt yX8_growsAt, Cond.initialized RX8, Cond.code yX8_growsAt cX8_growsAt 6 (some .int), Cond.fieldLink RX8 126 "SyllableBookModel" "neighbours" "I", Cond.methodLink RX8 129 yX8_findNeighbours, Cond.instanceMethod yX8_findNeighbours, Cond.selects RX8 yX8_findNeighbours yX8_findNeighbours, Cond.code yX8_findNeighbours cX8_findNeighbours 9 none, Cond.fieldLink RX8 35 "SyllableBookModel" "lengths" "[I", Cond.fieldLink RX8 47 "SyllableBookModel" "counts" "[I", Cond.methodLink RX8 95 yX8_findCut, Cond.instanceMethod yX8_findCut, Cond.selects RX8 yX8_findCut yX8_findCut, Cond.code yX8_findCut cX8_findCut 9 none, Cond.fieldLink RX8 28 "SyllableBookModel" "products" "[J", Cond.fieldLink RX8 32 "SyllableBookModel" "parts" "[I", Cond.methodLink RX8 72 yX8_wordPart, Cond.instanceMethod yX8_wordPart, Cond.selects RX8 yX8_wordPart yX8_wordPart]
def wsX8_grow_r2 : List Cond := [Cond.code yX8_wordPart cX8_wordPart 3 (some .int), Cond.methodLink RX8 89 yX8_longestAt, Cond.instanceMethod yX8_longestAt, Cond.selects RX8 yX8_longestAt yX8_longestAt, Cond.code yX8_longestAt cX8_longestAt 4 (some .int), Cond.methodLink RX8 92 yX8_weightIn, Cond.instanceMethod yX8_weightIn, Cond.selects RX8 yX8_weightIn yX8_weightIn, Cond.code yX8_weightIn cX8_weightIn 5 (some .int), Cond.methodLink RX8 82 yX8_textIn, Cond.instanceMethod yX8_textIn, Cond.selects RX8 yX8_textIn yX8_textIn, Cond.code yX8_textIn cX8_textIn 6 (some .int), Cond.methodLink RX8 86 yX8_pieceOf, Cond.instanceMethod yX8_pieceOf, Cond.selects RX8 yX8_pieceOf yX8_pieceOf, Cond.code yX8_pieceOf cX8_pieceOf 4 (some .int), Cond.methodLink RX8 79 yX8_textOf, Cond.instanceMethod yX8_textOf, Cond.selects RX8 yX8_textOf yX8_textOf, Cond.code yX8_textOf cX8_textOf 4 (some .int), Cond.methodLink RX8 68 yX8_piecePart, Cond.instanceMethod yX8_piecePart, Cond.selects RX8 yX8_piecePart yX8_piecePart]
def wsX8_grow_r3 : List Cond := [Cond.code yX8_piecePart cX8_piecePart 3 (some .int), Cond.methodLink RX8 132 yX8_standsSo, Cond.instanceMethod yX8_standsSo, Cond.selects RX8 yX8_standsSo yX8_standsSo, Cond.code yX8_standsSo cX8_standsSo 4 (some .int), Cond.methodLink RX8 144 yX8_record, Cond.instanceMethod yX8_record, Cond.selects RX8 yX8_record yX8_record, Cond.code yX8_record cX8_record 2 none, Cond.fieldLink RX8 56 "SyllableBookModel" "recorded" "I", Cond.fieldLink RX8 16 "SyllableBookModel" "history" "[I", Cond.methodLink RX8 60 yX8_copy, Cond.static yX8_copy, Cond.code yX8_copy cX8_copy 5 none, Cond.methodLink RX8 147 yX8_addPiece, Cond.instanceMethod yX8_addPiece, Cond.selects RX8 yX8_addPiece yX8_addPiece, Cond.code yX8_addPiece cX8_addPiece 7 (some .int), Cond.methodLink RX8 75 yX8_lengthOf, Cond.static yX8_lengthOf, Cond.code yX8_lengthOf cX8_lengthOf 3 (some .int), Cond.methodLink RX8 123 yX8_letterOf, Cond.static yX8_letterOf, Cond.code yX8_letterOf cX8_letterOf 5 (some .int)]
def wsX8_grow : List Cond := .code yX8_grow cX8_grow 2 (some .int) :: ((wsX8_grow_r1 ++ (wsX8_grow_r2 ++ wsX8_grow_r3)) ++ wsX80)
def wsX8_tune_r1 : List Cond := [Cond.fieldLink RX8 7 "SyllableBookModel" "state" "[I", Cond.fieldLink RX8 53 "SyllableBookModel" "bears" "[I", Cond.methodLink RX8 144 yX8_record, Cond.instanceMethod yX8_record, Cond.selects RX8 yX8_record yX8_record, Cond.initialized RX8, Cond.code yX8_record cX8_record 2 none, Cond.fieldLink RX8 56 "SyllableBookModel" "recorded" "I", Cond.fieldLink RX8 16 "SyllableBookModel" "history" "[I", Cond.methodLink RX8 60 yX8_copy, Cond.static yX8_copy, Cond.code yX8_copy cX8_copy 5 none, Cond.methodLink RX8 160 yX8_findBears, Cond.instanceMethod yX8_findBears, Cond.selects RX8 yX8_findBears yX8_findBears, Cond.code yX8_findBears cX8_findBears 3 none, Cond.methodLink RX8 107 yX8_findTotals, Cond.instanceMethod yX8_findTotals, Cond.selects RX8 yX8_findTotals yX8_findTotals, Cond.code yX8_findTotals cX8_findTotals 5 none, Cond.fieldLink RX8 38 "SyllableBookModel" "ahead" "[J", Cond.fieldLink RX8 41 "SyllableBookModel" "behind" "[J", Cond.methodLink RX8 72 yX8_wordPart, Cond.instanceMethod yX8_wordPart]
def wsX8_tune_r2 : List Cond := [Cond.selects RX8 yX8_wordPart yX8_wordPart, Cond.code yX8_wordPart cX8_wordPart 3 (some .int), Cond.methodLink RX8 89 yX8_longestAt, Cond.instanceMethod yX8_longestAt, Cond.selects RX8 yX8_longestAt yX8_longestAt, Cond.code yX8_longestAt cX8_longestAt 4 (some .int), Cond.methodLink RX8 92 yX8_weightIn, Cond.instanceMethod yX8_weightIn, Cond.selects RX8 yX8_weightIn yX8_weightIn, Cond.code yX8_weightIn cX8_weightIn 5 (some .int), Cond.methodLink RX8 82 yX8_textIn, Cond.instanceMethod yX8_textIn, Cond.selects RX8 yX8_textIn yX8_textIn, Cond.code yX8_textIn cX8_textIn 6 (some .int), Cond.methodLink RX8 86 yX8_pieceOf, Cond.instanceMethod yX8_pieceOf, Cond.selects RX8 yX8_pieceOf yX8_pieceOf, Cond.code yX8_pieceOf cX8_pieceOf 4 (some .int), Cond.methodLink RX8 79 yX8_textOf, Cond.instanceMethod yX8_textOf, Cond.selects RX8 yX8_textOf yX8_textOf, Cond.code yX8_textOf cX8_textOf 4 (some .int), Cond.methodLink RX8 68 yX8_piecePart, Cond.instanceMethod yX8_piecePart]
def wsX8_tune_r3 : List Cond := [Cond.selects RX8 yX8_piecePart yX8_piecePart, Cond.code yX8_piecePart cX8_piecePart 3 (some .int), Cond.methodLink RX8 110 yX8_shareIn, Cond.instanceMethod yX8_shareIn, Cond.selects RX8 yX8_shareIn yX8_shareIn, Cond.code yX8_shareIn cX8_shareIn 8 (some .int), Cond.constantLong RX8 105 (1000)]
def wsX8_tune : List Cond := .code yX8_tune cX8_tune 5 (some .int) :: ((wsX8_tune_r1 ++ (wsX8_tune_r2 ++ wsX8_tune_r3)) ++ wsX80)
def wsX8_shrink_r1 : List Cond := [Cond.fieldLink RX8 7 "SyllableBookModel" "state" "[I", Cond.methodLink RX8 64 yX8_within, Cond.static yX8_within, Cond.initialized RX8, Cond.code yX8_within cX8_within 3 (some .boolean), Cond.methodLink RX8 144 yX8_record, Cond.instanceMethod yX8_record, Cond.selects RX8 yX8_record yX8_record, Cond.code yX8_record cX8_record 2 none, Cond.fieldLink RX8 56 "SyllableBookModel" "recorded" "I", Cond.fieldLink RX8 16 "SyllableBookModel" "history" "[I", Cond.methodLink RX8 60 yX8_copy, Cond.static yX8_copy, Cond.code yX8_copy cX8_copy 5 none, Cond.methodLink RX8 163 yX8_leastOf, Cond.instanceMethod yX8_leastOf, Cond.selects RX8 yX8_leastOf yX8_leastOf, Cond.code yX8_leastOf cX8_leastOf 6 (some .int), Cond.methodLink RX8 120 yX8_lossOf, Cond.instanceMethod yX8_lossOf, Cond.selects RX8 yX8_lossOf yX8_lossOf, Cond.code yX8_lossOf cX8_lossOf 4 (some .int), Cond.fieldLink RX8 13 "SyllableBookModel" "kept" "[I", Cond.methodLink RX8 113 yX8_allCosts]
def wsX8_shrink_r2 : List Cond := [Cond.instanceMethod yX8_allCosts, Cond.selects RX8 yX8_allCosts yX8_allCosts, Cond.code yX8_allCosts cX8_allCosts 3 (some .int), Cond.methodLink RX8 102 yX8_costOf, Cond.instanceMethod yX8_costOf, Cond.selects RX8 yX8_costOf yX8_costOf, Cond.code yX8_costOf cX8_costOf 2 (some .int), Cond.fieldLink RX8 32 "SyllableBookModel" "parts" "[I", Cond.methodLink RX8 95 yX8_findCut, Cond.instanceMethod yX8_findCut, Cond.selects RX8 yX8_findCut yX8_findCut, Cond.code yX8_findCut cX8_findCut 9 none, Cond.fieldLink RX8 28 "SyllableBookModel" "products" "[J", Cond.fieldLink RX8 35 "SyllableBookModel" "lengths" "[I", Cond.methodLink RX8 72 yX8_wordPart, Cond.instanceMethod yX8_wordPart, Cond.selects RX8 yX8_wordPart yX8_wordPart, Cond.code yX8_wordPart cX8_wordPart 3 (some .int), Cond.methodLink RX8 89 yX8_longestAt, Cond.instanceMethod yX8_longestAt, Cond.selects RX8 yX8_longestAt yX8_longestAt, Cond.code yX8_longestAt cX8_longestAt 4 (some .int), Cond.methodLink RX8 92 yX8_weightIn, Cond.instanceMethod yX8_weightIn]
def wsX8_shrink_r3 : List Cond := [Cond.selects RX8 yX8_weightIn yX8_weightIn, Cond.code yX8_weightIn cX8_weightIn 5 (some .int), Cond.methodLink RX8 82 yX8_textIn, Cond.instanceMethod yX8_textIn, Cond.selects RX8 yX8_textIn yX8_textIn, Cond.code yX8_textIn cX8_textIn 6 (some .int), Cond.methodLink RX8 86 yX8_pieceOf, Cond.instanceMethod yX8_pieceOf, Cond.selects RX8 yX8_pieceOf yX8_pieceOf, Cond.code yX8_pieceOf cX8_pieceOf 4 (some .int), Cond.methodLink RX8 79 yX8_textOf, Cond.instanceMethod yX8_textOf, Cond.selects RX8 yX8_textOf yX8_textOf, Cond.code yX8_textOf cX8_textOf 4 (some .int), Cond.methodLink RX8 68 yX8_piecePart, Cond.instanceMethod yX8_piecePart, Cond.selects RX8 yX8_piecePart yX8_piecePart, Cond.code yX8_piecePart cX8_piecePart 3 (some .int), Cond.methodLink RX8 99 yX8_unseenIn, Cond.instanceMethod yX8_unseenIn, Cond.selects RX8 yX8_unseenIn yX8_unseenIn, Cond.code yX8_unseenIn cX8_unseenIn 4 (some .int), Cond.methodLink RX8 117 yX8_dropPiece, Cond.instanceMethod yX8_dropPiece]
def wsX8_shrink_r4 : List Cond := [Cond.selects RX8 yX8_dropPiece yX8_dropPiece, Cond.code yX8_dropPiece cX8_dropPiece 3 none]
def wsX8_shrink : List Cond := .code yX8_shrink cX8_shrink 3 (some .int) :: ((wsX8_shrink_r1 ++ (wsX8_shrink_r2 ++ (wsX8_shrink_r3 ++ wsX8_shrink_r4))) ++ wsX80)
def wsX8_partOften_r1 : List Cond := [Cond.fieldLink RX8 7 "SyllableBookModel" "state" "[I", Cond.fieldLink RX8 35 "SyllableBookModel" "lengths" "[I", Cond.methodLink RX8 95 yX8_findCut, Cond.instanceMethod yX8_findCut, Cond.selects RX8 yX8_findCut yX8_findCut, Cond.initialized RX8, Cond.code yX8_findCut cX8_findCut 9 none, Cond.fieldLink RX8 28 "SyllableBookModel" "products" "[J", Cond.fieldLink RX8 32 "SyllableBookModel" "parts" "[I", Cond.methodLink RX8 72 yX8_wordPart, Cond.instanceMethod yX8_wordPart, Cond.selects RX8 yX8_wordPart yX8_wordPart, Cond.code yX8_wordPart cX8_wordPart 3 (some .int), Cond.methodLink RX8 89 yX8_longestAt, Cond.instanceMethod yX8_longestAt, Cond.selects RX8 yX8_longestAt yX8_longestAt, Cond.code yX8_longestAt cX8_longestAt 4 (some .int), Cond.methodLink RX8 92 yX8_weightIn, Cond.instanceMethod yX8_weightIn, Cond.selects RX8 yX8_weightIn yX8_weightIn, Cond.code yX8_weightIn cX8_weightIn 5 (some .int), Cond.methodLink RX8 82 yX8_textIn, Cond.instanceMethod yX8_textIn, Cond.selects RX8 yX8_textIn yX8_textIn]
def wsX8_partOften_r2 : List Cond := [Cond.code yX8_textIn cX8_textIn 6 (some .int), Cond.methodLink RX8 86 yX8_pieceOf, Cond.instanceMethod yX8_pieceOf, Cond.selects RX8 yX8_pieceOf yX8_pieceOf, Cond.code yX8_pieceOf cX8_pieceOf 4 (some .int), Cond.methodLink RX8 79 yX8_textOf, Cond.instanceMethod yX8_textOf, Cond.selects RX8 yX8_textOf yX8_textOf, Cond.code yX8_textOf cX8_textOf 4 (some .int), Cond.methodLink RX8 68 yX8_piecePart, Cond.instanceMethod yX8_piecePart, Cond.selects RX8 yX8_piecePart yX8_piecePart, Cond.code yX8_piecePart cX8_piecePart 3 (some .int)]
def wsX8_partOften : List Cond := .code yX8_partOften cX8_partOften 5 (some .int) :: ((wsX8_partOften_r1 ++ wsX8_partOften_r2) ++ wsX80)
def wsX8_ofPiece_r1 : List Cond := [Cond.constant RX8 169 (100000), Cond.fieldLink RX8 53 "SyllableBookModel" "bears" "[I", Cond.methodLink RX8 150 yX8_isPiece, Cond.instanceMethod yX8_isPiece, Cond.selects RX8 yX8_isPiece yX8_isPiece, Cond.initialized RX8, Cond.code yX8_isPiece cX8_isPiece 2 (some .boolean), Cond.fieldLink RX8 7 "SyllableBookModel" "state" "[I", Cond.methodLink RX8 64 yX8_within, Cond.static yX8_within, Cond.code yX8_within cX8_within 3 (some .boolean), Cond.methodLink RX8 68 yX8_piecePart, Cond.instanceMethod yX8_piecePart, Cond.selects RX8 yX8_piecePart yX8_piecePart, Cond.code yX8_piecePart cX8_piecePart 3 (some .int), Cond.methodLink RX8 79 yX8_textOf, Cond.instanceMethod yX8_textOf, Cond.selects RX8 yX8_textOf yX8_textOf, Cond.code yX8_textOf cX8_textOf 4 (some .int), Cond.methodLink RX8 123 yX8_letterOf, Cond.static yX8_letterOf, Cond.code yX8_letterOf cX8_letterOf 5 (some .int), Cond.methodLink RX8 75 yX8_lengthOf, Cond.static yX8_lengthOf]
def wsX8_ofPiece_r2 : List Cond := [Cond.code yX8_lengthOf cX8_lengthOf 3 (some .int), Cond.methodLink RX8 166 yX8_partOften, Cond.instanceMethod yX8_partOften, Cond.selects RX8 yX8_partOften yX8_partOften, Cond.code yX8_partOften cX8_partOften 5 (some .int), Cond.fieldLink RX8 35 "SyllableBookModel" "lengths" "[I", Cond.methodLink RX8 95 yX8_findCut, Cond.instanceMethod yX8_findCut, Cond.selects RX8 yX8_findCut yX8_findCut, Cond.code yX8_findCut cX8_findCut 9 none, Cond.fieldLink RX8 28 "SyllableBookModel" "products" "[J", Cond.fieldLink RX8 32 "SyllableBookModel" "parts" "[I", Cond.methodLink RX8 72 yX8_wordPart, Cond.instanceMethod yX8_wordPart, Cond.selects RX8 yX8_wordPart yX8_wordPart, Cond.code yX8_wordPart cX8_wordPart 3 (some .int), Cond.methodLink RX8 89 yX8_longestAt, Cond.instanceMethod yX8_longestAt, Cond.selects RX8 yX8_longestAt yX8_longestAt, Cond.code yX8_longestAt cX8_longestAt 4 (some .int), Cond.methodLink RX8 92 yX8_weightIn, Cond.instanceMethod yX8_weightIn, Cond.selects RX8 yX8_weightIn yX8_weightIn, Cond.code yX8_weightIn cX8_weightIn 5 (some .int)]
def wsX8_ofPiece_r3 : List Cond := [Cond.methodLink RX8 82 yX8_textIn, Cond.instanceMethod yX8_textIn, Cond.selects RX8 yX8_textIn yX8_textIn, Cond.code yX8_textIn cX8_textIn 6 (some .int), Cond.methodLink RX8 86 yX8_pieceOf, Cond.instanceMethod yX8_pieceOf, Cond.selects RX8 yX8_pieceOf yX8_pieceOf, Cond.code yX8_pieceOf cX8_pieceOf 4 (some .int), Cond.methodLink RX8 120 yX8_lossOf, Cond.instanceMethod yX8_lossOf, Cond.selects RX8 yX8_lossOf yX8_lossOf, Cond.code yX8_lossOf cX8_lossOf 4 (some .int), Cond.fieldLink RX8 13 "SyllableBookModel" "kept" "[I", Cond.methodLink RX8 113 yX8_allCosts, Cond.instanceMethod yX8_allCosts, Cond.selects RX8 yX8_allCosts yX8_allCosts, Cond.code yX8_allCosts cX8_allCosts 3 (some .int), Cond.methodLink RX8 102 yX8_costOf, Cond.instanceMethod yX8_costOf, Cond.selects RX8 yX8_costOf yX8_costOf, Cond.code yX8_costOf cX8_costOf 2 (some .int), Cond.methodLink RX8 99 yX8_unseenIn, Cond.instanceMethod yX8_unseenIn, Cond.selects RX8 yX8_unseenIn yX8_unseenIn]
def wsX8_ofPiece_r4 : List Cond := [Cond.code yX8_unseenIn cX8_unseenIn 4 (some .int), Cond.methodLink RX8 60 yX8_copy, Cond.static yX8_copy, Cond.code yX8_copy cX8_copy 5 none, Cond.methodLink RX8 117 yX8_dropPiece, Cond.instanceMethod yX8_dropPiece, Cond.selects RX8 yX8_dropPiece yX8_dropPiece, Cond.code yX8_dropPiece cX8_dropPiece 3 none, Cond.methodLink RX8 160 yX8_findBears, Cond.instanceMethod yX8_findBears, Cond.selects RX8 yX8_findBears yX8_findBears, Cond.code yX8_findBears cX8_findBears 3 none, Cond.methodLink RX8 107 yX8_findTotals, Cond.instanceMethod yX8_findTotals, Cond.selects RX8 yX8_findTotals yX8_findTotals, Cond.code yX8_findTotals cX8_findTotals 5 none, Cond.fieldLink RX8 38 "SyllableBookModel" "ahead" "[J", Cond.fieldLink RX8 41 "SyllableBookModel" "behind" "[J", Cond.methodLink RX8 110 yX8_shareIn, Cond.instanceMethod yX8_shareIn, Cond.selects RX8 yX8_shareIn yX8_shareIn, Cond.code yX8_shareIn cX8_shareIn 8 (some .int), Cond.constantLong RX8 105 (1000)]
def wsX8_ofPiece : List Cond := .code yX8_ofPiece cX8_ofPiece 3 (some .int) :: ((wsX8_ofPiece_r1 ++ (wsX8_ofPiece_r2 ++ (wsX8_ofPiece_r3 ++ wsX8_ofPiece_r4))) ++ wsX80)
def wsX8_ofWord_r1 : List Cond := [Cond.fieldLink RX8 32 "SyllableBookModel" "parts" "[I", Cond.methodLink RX8 154 yX8_isWord, Cond.instanceMethod yX8_isWord, Cond.selects RX8 yX8_isWord yX8_isWord, Cond.initialized RX8, Cond.code yX8_isWord cX8_isWord 2 (some .boolean), Cond.fieldLink RX8 7 "SyllableBookModel" "state" "[I", Cond.methodLink RX8 64 yX8_within, Cond.static yX8_within, Cond.code yX8_within cX8_within 3 (some .boolean), Cond.methodLink RX8 95 yX8_findCut, Cond.instanceMethod yX8_findCut, Cond.selects RX8 yX8_findCut yX8_findCut, Cond.code yX8_findCut cX8_findCut 9 none, Cond.fieldLink RX8 28 "SyllableBookModel" "products" "[J", Cond.fieldLink RX8 35 "SyllableBookModel" "lengths" "[I", Cond.methodLink RX8 72 yX8_wordPart, Cond.instanceMethod yX8_wordPart, Cond.selects RX8 yX8_wordPart yX8_wordPart, Cond.code yX8_wordPart cX8_wordPart 3 (some .int), Cond.methodLink RX8 89 yX8_longestAt, Cond.instanceMethod yX8_longestAt, Cond.selects RX8 yX8_longestAt yX8_longestAt, Cond.code yX8_longestAt cX8_longestAt 4 (some .int)]
def wsX8_ofWord_r2 : List Cond := [Cond.methodLink RX8 92 yX8_weightIn, Cond.instanceMethod yX8_weightIn, Cond.selects RX8 yX8_weightIn yX8_weightIn, Cond.code yX8_weightIn cX8_weightIn 5 (some .int), Cond.methodLink RX8 82 yX8_textIn, Cond.instanceMethod yX8_textIn, Cond.selects RX8 yX8_textIn yX8_textIn, Cond.code yX8_textIn cX8_textIn 6 (some .int), Cond.methodLink RX8 86 yX8_pieceOf, Cond.instanceMethod yX8_pieceOf, Cond.selects RX8 yX8_pieceOf yX8_pieceOf, Cond.code yX8_pieceOf cX8_pieceOf 4 (some .int), Cond.methodLink RX8 79 yX8_textOf, Cond.instanceMethod yX8_textOf, Cond.selects RX8 yX8_textOf yX8_textOf, Cond.code yX8_textOf cX8_textOf 4 (some .int), Cond.methodLink RX8 68 yX8_piecePart, Cond.instanceMethod yX8_piecePart, Cond.selects RX8 yX8_piecePart yX8_piecePart, Cond.code yX8_piecePart cX8_piecePart 3 (some .int), Cond.methodLink RX8 99 yX8_unseenIn, Cond.instanceMethod yX8_unseenIn, Cond.selects RX8 yX8_unseenIn yX8_unseenIn, Cond.code yX8_unseenIn cX8_unseenIn 4 (some .int)]
def wsX8_ofWord_r3 : List Cond := [Cond.methodLink RX8 102 yX8_costOf, Cond.instanceMethod yX8_costOf, Cond.selects RX8 yX8_costOf yX8_costOf, Cond.code yX8_costOf cX8_costOf 2 (some .int), Cond.methodLink RX8 170 yX8_cutsOf, Cond.instanceMethod yX8_cutsOf, Cond.selects RX8 yX8_cutsOf yX8_cutsOf, Cond.code yX8_cutsOf cX8_cutsOf 5 (some .int), Cond.fieldLink RX8 41 "SyllableBookModel" "behind" "[J"]
def wsX8_ofWord : List Cond := .code yX8_ofWord cX8_ofWord 3 (some .int) :: ((wsX8_ofWord_r1 ++ (wsX8_ofWord_r2 ++ wsX8_ofWord_r3)) ++ wsX80)
def wsX8_letter : List Cond := .code yX8_letter cX8_letter 3 (some .int) :: ([.methodLink RX8 154 yX8_isWord, .instanceMethod yX8_isWord, .selects RX8 yX8_isWord yX8_isWord, .initialized RX8, .code yX8_isWord cX8_isWord 2 (some .boolean), .fieldLink RX8 7 "SyllableBookModel" "state" "[I", .methodLink RX8 64 yX8_within, .static yX8_within, .code yX8_within cX8_within 3 (some .boolean), .methodLink RX8 72 yX8_wordPart, .instanceMethod yX8_wordPart, .selects RX8 yX8_wordPart yX8_wordPart, .code yX8_wordPart cX8_wordPart 3 (some .int)] ++ wsX80)
def wsX8_product_r1 : List Cond := [Cond.constantLong RX8 173 (-2), Cond.constantLong RX8 175 (-1), Cond.fieldLink RX8 41 "SyllableBookModel" "behind" "[J", Cond.fieldLink RX8 28 "SyllableBookModel" "products" "[J", Cond.methodLink RX8 154 yX8_isWord, Cond.instanceMethod yX8_isWord, Cond.selects RX8 yX8_isWord yX8_isWord, Cond.initialized RX8, Cond.code yX8_isWord cX8_isWord 2 (some .boolean), Cond.fieldLink RX8 7 "SyllableBookModel" "state" "[I", Cond.methodLink RX8 64 yX8_within, Cond.static yX8_within, Cond.code yX8_within cX8_within 3 (some .boolean), Cond.methodLink RX8 95 yX8_findCut, Cond.instanceMethod yX8_findCut, Cond.selects RX8 yX8_findCut yX8_findCut, Cond.code yX8_findCut cX8_findCut 9 none, Cond.fieldLink RX8 32 "SyllableBookModel" "parts" "[I", Cond.fieldLink RX8 35 "SyllableBookModel" "lengths" "[I", Cond.methodLink RX8 72 yX8_wordPart, Cond.instanceMethod yX8_wordPart, Cond.selects RX8 yX8_wordPart yX8_wordPart, Cond.code yX8_wordPart cX8_wordPart 3 (some .int), Cond.methodLink RX8 89 yX8_longestAt]
def wsX8_product_r2 : List Cond := [Cond.instanceMethod yX8_longestAt, Cond.selects RX8 yX8_longestAt yX8_longestAt, Cond.code yX8_longestAt cX8_longestAt 4 (some .int), Cond.methodLink RX8 92 yX8_weightIn, Cond.instanceMethod yX8_weightIn, Cond.selects RX8 yX8_weightIn yX8_weightIn, Cond.code yX8_weightIn cX8_weightIn 5 (some .int), Cond.methodLink RX8 82 yX8_textIn, Cond.instanceMethod yX8_textIn, Cond.selects RX8 yX8_textIn yX8_textIn, Cond.code yX8_textIn cX8_textIn 6 (some .int), Cond.methodLink RX8 86 yX8_pieceOf, Cond.instanceMethod yX8_pieceOf, Cond.selects RX8 yX8_pieceOf yX8_pieceOf, Cond.code yX8_pieceOf cX8_pieceOf 4 (some .int), Cond.methodLink RX8 79 yX8_textOf, Cond.instanceMethod yX8_textOf, Cond.selects RX8 yX8_textOf yX8_textOf, Cond.code yX8_textOf cX8_textOf 4 (some .int), Cond.methodLink RX8 68 yX8_piecePart, Cond.instanceMethod yX8_piecePart, Cond.selects RX8 yX8_piecePart yX8_piecePart, Cond.code yX8_piecePart cX8_piecePart 3 (some .int), Cond.methodLink RX8 107 yX8_findTotals]
def wsX8_product_r3 : List Cond := [Cond.instanceMethod yX8_findTotals, Cond.selects RX8 yX8_findTotals yX8_findTotals, Cond.code yX8_findTotals cX8_findTotals 5 none, Cond.fieldLink RX8 38 "SyllableBookModel" "ahead" "[J"]
def wsX8_product : List Cond := .code yX8_product cX8_product 3 (some .long) :: ((wsX8_product_r1 ++ (wsX8_product_r2 ++ wsX8_product_r3)) ++ wsX80)
def wsX8_part_r1 : List Cond := [Cond.fieldLink RX8 32 "SyllableBookModel" "parts" "[I", Cond.fieldLink RX8 35 "SyllableBookModel" "lengths" "[I", Cond.methodLink RX8 154 yX8_isWord, Cond.instanceMethod yX8_isWord, Cond.selects RX8 yX8_isWord yX8_isWord, Cond.initialized RX8, Cond.code yX8_isWord cX8_isWord 2 (some .boolean), Cond.fieldLink RX8 7 "SyllableBookModel" "state" "[I", Cond.methodLink RX8 64 yX8_within, Cond.static yX8_within, Cond.code yX8_within cX8_within 3 (some .boolean), Cond.methodLink RX8 95 yX8_findCut, Cond.instanceMethod yX8_findCut, Cond.selects RX8 yX8_findCut yX8_findCut, Cond.code yX8_findCut cX8_findCut 9 none, Cond.fieldLink RX8 28 "SyllableBookModel" "products" "[J", Cond.methodLink RX8 72 yX8_wordPart, Cond.instanceMethod yX8_wordPart, Cond.selects RX8 yX8_wordPart yX8_wordPart, Cond.code yX8_wordPart cX8_wordPart 3 (some .int), Cond.methodLink RX8 89 yX8_longestAt, Cond.instanceMethod yX8_longestAt, Cond.selects RX8 yX8_longestAt yX8_longestAt, Cond.code yX8_longestAt cX8_longestAt 4 (some .int)]
def wsX8_part_r2 : List Cond := [Cond.methodLink RX8 92 yX8_weightIn, Cond.instanceMethod yX8_weightIn, Cond.selects RX8 yX8_weightIn yX8_weightIn, Cond.code yX8_weightIn cX8_weightIn 5 (some .int), Cond.methodLink RX8 82 yX8_textIn, Cond.instanceMethod yX8_textIn, Cond.selects RX8 yX8_textIn yX8_textIn, Cond.code yX8_textIn cX8_textIn 6 (some .int), Cond.methodLink RX8 86 yX8_pieceOf, Cond.instanceMethod yX8_pieceOf, Cond.selects RX8 yX8_pieceOf yX8_pieceOf, Cond.code yX8_pieceOf cX8_pieceOf 4 (some .int), Cond.methodLink RX8 79 yX8_textOf, Cond.instanceMethod yX8_textOf, Cond.selects RX8 yX8_textOf yX8_textOf, Cond.code yX8_textOf cX8_textOf 4 (some .int), Cond.methodLink RX8 68 yX8_piecePart, Cond.instanceMethod yX8_piecePart, Cond.selects RX8 yX8_piecePart yX8_piecePart, Cond.code yX8_piecePart cX8_piecePart 3 (some .int)]
def wsX8_part : List Cond := .code yX8_part cX8_part 6 (some .int) :: ((wsX8_part_r1 ++ wsX8_part_r2) ++ wsX80)
def wsX8_share_r1 : List Cond := [Cond.methodLink RX8 154 yX8_isWord, Cond.instanceMethod yX8_isWord, Cond.selects RX8 yX8_isWord yX8_isWord, Cond.initialized RX8, Cond.code yX8_isWord cX8_isWord 2 (some .boolean), Cond.fieldLink RX8 7 "SyllableBookModel" "state" "[I", Cond.methodLink RX8 64 yX8_within, Cond.static yX8_within, Cond.code yX8_within cX8_within 3 (some .boolean), Cond.methodLink RX8 150 yX8_isPiece, Cond.instanceMethod yX8_isPiece, Cond.selects RX8 yX8_isPiece yX8_isPiece, Cond.code yX8_isPiece cX8_isPiece 2 (some .boolean), Cond.methodLink RX8 107 yX8_findTotals, Cond.instanceMethod yX8_findTotals, Cond.selects RX8 yX8_findTotals yX8_findTotals, Cond.code yX8_findTotals cX8_findTotals 5 none, Cond.fieldLink RX8 38 "SyllableBookModel" "ahead" "[J", Cond.fieldLink RX8 41 "SyllableBookModel" "behind" "[J", Cond.methodLink RX8 72 yX8_wordPart, Cond.instanceMethod yX8_wordPart, Cond.selects RX8 yX8_wordPart yX8_wordPart, Cond.code yX8_wordPart cX8_wordPart 3 (some .int), Cond.methodLink RX8 89 yX8_longestAt]
def wsX8_share_r2 : List Cond := [Cond.instanceMethod yX8_longestAt, Cond.selects RX8 yX8_longestAt yX8_longestAt, Cond.code yX8_longestAt cX8_longestAt 4 (some .int), Cond.methodLink RX8 92 yX8_weightIn, Cond.instanceMethod yX8_weightIn, Cond.selects RX8 yX8_weightIn yX8_weightIn, Cond.code yX8_weightIn cX8_weightIn 5 (some .int), Cond.methodLink RX8 82 yX8_textIn, Cond.instanceMethod yX8_textIn, Cond.selects RX8 yX8_textIn yX8_textIn, Cond.code yX8_textIn cX8_textIn 6 (some .int), Cond.methodLink RX8 86 yX8_pieceOf, Cond.instanceMethod yX8_pieceOf, Cond.selects RX8 yX8_pieceOf yX8_pieceOf, Cond.code yX8_pieceOf cX8_pieceOf 4 (some .int), Cond.methodLink RX8 79 yX8_textOf, Cond.instanceMethod yX8_textOf, Cond.selects RX8 yX8_textOf yX8_textOf, Cond.code yX8_textOf cX8_textOf 4 (some .int), Cond.methodLink RX8 68 yX8_piecePart, Cond.instanceMethod yX8_piecePart, Cond.selects RX8 yX8_piecePart yX8_piecePart, Cond.code yX8_piecePart cX8_piecePart 3 (some .int), Cond.methodLink RX8 110 yX8_shareIn]
def wsX8_share_r3 : List Cond := [Cond.instanceMethod yX8_shareIn, Cond.selects RX8 yX8_shareIn yX8_shareIn, Cond.code yX8_shareIn cX8_shareIn 8 (some .int), Cond.constantLong RX8 105 (1000)]
def wsX8_share : List Cond := .code yX8_share cX8_share 3 (some .int) :: ((wsX8_share_r1 ++ (wsX8_share_r2 ++ wsX8_share_r3)) ++ wsX80)
def wsX8_count_r1 : List Cond := [Cond.fieldLink RX8 7 "SyllableBookModel" "state" "[I", Cond.fieldLink RX8 32 "SyllableBookModel" "parts" "[I", Cond.fieldLink RX8 135 "SyllableBookModel" "padLength" "I", Cond.fieldLink RX8 56 "SyllableBookModel" "recorded" "I", Cond.methodLink RX8 95 yX8_findCut, Cond.instanceMethod yX8_findCut, Cond.selects RX8 yX8_findCut yX8_findCut, Cond.initialized RX8, Cond.code yX8_findCut cX8_findCut 9 none, Cond.fieldLink RX8 28 "SyllableBookModel" "products" "[J", Cond.fieldLink RX8 35 "SyllableBookModel" "lengths" "[I", Cond.methodLink RX8 72 yX8_wordPart, Cond.instanceMethod yX8_wordPart, Cond.selects RX8 yX8_wordPart yX8_wordPart, Cond.code yX8_wordPart cX8_wordPart 3 (some .int), Cond.methodLink RX8 89 yX8_longestAt, Cond.instanceMethod yX8_longestAt, Cond.selects RX8 yX8_longestAt yX8_longestAt, Cond.code yX8_longestAt cX8_longestAt 4 (some .int), Cond.methodLink RX8 92 yX8_weightIn, Cond.instanceMethod yX8_weightIn, Cond.selects RX8 yX8_weightIn yX8_weightIn, Cond.code yX8_weightIn cX8_weightIn 5 (some .int), Cond.methodLink RX8 82 yX8_textIn]
def wsX8_count_r2 : List Cond := [Cond.instanceMethod yX8_textIn, Cond.selects RX8 yX8_textIn yX8_textIn, Cond.code yX8_textIn cX8_textIn 6 (some .int), Cond.methodLink RX8 86 yX8_pieceOf, Cond.instanceMethod yX8_pieceOf, Cond.selects RX8 yX8_pieceOf yX8_pieceOf, Cond.code yX8_pieceOf cX8_pieceOf 4 (some .int), Cond.methodLink RX8 79 yX8_textOf, Cond.instanceMethod yX8_textOf, Cond.selects RX8 yX8_textOf yX8_textOf, Cond.code yX8_textOf cX8_textOf 4 (some .int), Cond.methodLink RX8 68 yX8_piecePart, Cond.instanceMethod yX8_piecePart, Cond.selects RX8 yX8_piecePart yX8_piecePart, Cond.code yX8_piecePart cX8_piecePart 3 (some .int), Cond.methodLink RX8 99 yX8_unseenIn, Cond.instanceMethod yX8_unseenIn, Cond.selects RX8 yX8_unseenIn yX8_unseenIn, Cond.code yX8_unseenIn cX8_unseenIn 4 (some .int)]
def wsX8_count : List Cond := .code yX8_count cX8_count 6 (some .int) :: ((wsX8_count_r1 ++ wsX8_count_r2) ++ wsX80)
def wsX8_costWith_r1 : List Cond := [Cond.fieldLink RX8 7 "SyllableBookModel" "state" "[I", Cond.methodLink RX8 141 yX8_whyNoPiece, Cond.instanceMethod yX8_whyNoPiece, Cond.selects RX8 yX8_whyNoPiece yX8_whyNoPiece, Cond.initialized RX8, Cond.code yX8_whyNoPiece cX8_whyNoPiece 3 (some .int), Cond.methodLink RX8 138 yX8_padText, Cond.instanceMethod yX8_padText, Cond.selects RX8 yX8_padText yX8_padText, Cond.code yX8_padText cX8_padText 5 (some .int), Cond.fieldLink RX8 135 "SyllableBookModel" "padLength" "I", Cond.fieldLink RX8 25 "SyllableBookModel" "pad" "[I", Cond.methodLink RX8 64 yX8_within, Cond.static yX8_within, Cond.code yX8_within cX8_within 3 (some .boolean), Cond.methodLink RX8 86 yX8_pieceOf, Cond.instanceMethod yX8_pieceOf, Cond.selects RX8 yX8_pieceOf yX8_pieceOf, Cond.code yX8_pieceOf cX8_pieceOf 4 (some .int), Cond.methodLink RX8 79 yX8_textOf, Cond.instanceMethod yX8_textOf, Cond.selects RX8 yX8_textOf yX8_textOf, Cond.code yX8_textOf cX8_textOf 4 (some .int), Cond.methodLink RX8 68 yX8_piecePart]
def wsX8_costWith_r2 : List Cond := [Cond.instanceMethod yX8_piecePart, Cond.selects RX8 yX8_piecePart yX8_piecePart, Cond.code yX8_piecePart cX8_piecePart 3 (some .int), Cond.methodLink RX8 147 yX8_addPiece, Cond.instanceMethod yX8_addPiece, Cond.selects RX8 yX8_addPiece yX8_addPiece, Cond.code yX8_addPiece cX8_addPiece 7 (some .int), Cond.methodLink RX8 75 yX8_lengthOf, Cond.static yX8_lengthOf, Cond.code yX8_lengthOf cX8_lengthOf 3 (some .int), Cond.methodLink RX8 123 yX8_letterOf, Cond.static yX8_letterOf, Cond.code yX8_letterOf cX8_letterOf 5 (some .int), Cond.methodLink RX8 113 yX8_allCosts, Cond.instanceMethod yX8_allCosts, Cond.selects RX8 yX8_allCosts yX8_allCosts, Cond.code yX8_allCosts cX8_allCosts 3 (some .int), Cond.methodLink RX8 102 yX8_costOf, Cond.instanceMethod yX8_costOf, Cond.selects RX8 yX8_costOf yX8_costOf, Cond.code yX8_costOf cX8_costOf 2 (some .int), Cond.fieldLink RX8 32 "SyllableBookModel" "parts" "[I", Cond.methodLink RX8 95 yX8_findCut, Cond.instanceMethod yX8_findCut]
def wsX8_costWith_r3 : List Cond := [Cond.selects RX8 yX8_findCut yX8_findCut, Cond.code yX8_findCut cX8_findCut 9 none, Cond.fieldLink RX8 28 "SyllableBookModel" "products" "[J", Cond.fieldLink RX8 35 "SyllableBookModel" "lengths" "[I", Cond.methodLink RX8 72 yX8_wordPart, Cond.instanceMethod yX8_wordPart, Cond.selects RX8 yX8_wordPart yX8_wordPart, Cond.code yX8_wordPart cX8_wordPart 3 (some .int), Cond.methodLink RX8 89 yX8_longestAt, Cond.instanceMethod yX8_longestAt, Cond.selects RX8 yX8_longestAt yX8_longestAt, Cond.code yX8_longestAt cX8_longestAt 4 (some .int), Cond.methodLink RX8 92 yX8_weightIn, Cond.instanceMethod yX8_weightIn, Cond.selects RX8 yX8_weightIn yX8_weightIn, Cond.code yX8_weightIn cX8_weightIn 5 (some .int), Cond.methodLink RX8 82 yX8_textIn, Cond.instanceMethod yX8_textIn, Cond.selects RX8 yX8_textIn yX8_textIn, Cond.code yX8_textIn cX8_textIn 6 (some .int), Cond.methodLink RX8 99 yX8_unseenIn, Cond.instanceMethod yX8_unseenIn, Cond.selects RX8 yX8_unseenIn yX8_unseenIn, Cond.code yX8_unseenIn cX8_unseenIn 4 (some .int)]
def wsX8_costWith : List Cond := .code yX8_costWith cX8_costWith 4 (some .int) :: ((wsX8_costWith_r1 ++ (wsX8_costWith_r2 ++ wsX8_costWith_r3)) ++ wsX80)
def wsX8_growing_r1 : List Cond := [Cond.fieldLink RX8 44 "SyllableBookModel" "texts" "[I", Cond.fieldLink RX8 50 "SyllableBookModel" "weights" "[I", Cond.methodLink RX8 64 yX8_within, Cond.static yX8_within, Cond.initialized RX8, Cond.code yX8_within cX8_within 3 (some .boolean), Cond.methodLink RX8 157 yX8_growsAt, Cond.instanceMethod yX8_growsAt, Cond.selects RX8 yX8_growsAt yX8_growsAt, Cond.code yX8_growsAt cX8_growsAt 6 (some .int), Cond.fieldLink RX8 126 "SyllableBookModel" "neighbours" "I", Cond.methodLink RX8 129 yX8_findNeighbours, Cond.instanceMethod yX8_findNeighbours, Cond.selects RX8 yX8_findNeighbours yX8_findNeighbours, Cond.code yX8_findNeighbours cX8_findNeighbours 9 none, Cond.fieldLink RX8 7 "SyllableBookModel" "state" "[I", Cond.fieldLink RX8 35 "SyllableBookModel" "lengths" "[I", Cond.fieldLink RX8 47 "SyllableBookModel" "counts" "[I", Cond.methodLink RX8 95 yX8_findCut, Cond.instanceMethod yX8_findCut, Cond.selects RX8 yX8_findCut yX8_findCut, Cond.code yX8_findCut cX8_findCut 9 none, Cond.fieldLink RX8 28 "SyllableBookModel" "products" "[J", Cond.fieldLink RX8 32 "SyllableBookModel" "parts" "[I"]
def wsX8_growing_r2 : List Cond := [Cond.methodLink RX8 72 yX8_wordPart, Cond.instanceMethod yX8_wordPart, Cond.selects RX8 yX8_wordPart yX8_wordPart, Cond.code yX8_wordPart cX8_wordPart 3 (some .int), Cond.methodLink RX8 89 yX8_longestAt, Cond.instanceMethod yX8_longestAt, Cond.selects RX8 yX8_longestAt yX8_longestAt, Cond.code yX8_longestAt cX8_longestAt 4 (some .int), Cond.methodLink RX8 92 yX8_weightIn, Cond.instanceMethod yX8_weightIn, Cond.selects RX8 yX8_weightIn yX8_weightIn, Cond.code yX8_weightIn cX8_weightIn 5 (some .int), Cond.methodLink RX8 82 yX8_textIn, Cond.instanceMethod yX8_textIn, Cond.selects RX8 yX8_textIn yX8_textIn, Cond.code yX8_textIn cX8_textIn 6 (some .int), Cond.methodLink RX8 86 yX8_pieceOf, Cond.instanceMethod yX8_pieceOf, Cond.selects RX8 yX8_pieceOf yX8_pieceOf, Cond.code yX8_pieceOf cX8_pieceOf 4 (some .int), Cond.methodLink RX8 79 yX8_textOf, Cond.instanceMethod yX8_textOf, Cond.selects RX8 yX8_textOf yX8_textOf, Cond.code yX8_textOf cX8_textOf 4 (some .int)]
def wsX8_growing_r3 : List Cond := [Cond.methodLink RX8 68 yX8_piecePart, Cond.instanceMethod yX8_piecePart, Cond.selects RX8 yX8_piecePart yX8_piecePart, Cond.code yX8_piecePart cX8_piecePart 3 (some .int), Cond.methodLink RX8 132 yX8_standsSo, Cond.instanceMethod yX8_standsSo, Cond.selects RX8 yX8_standsSo yX8_standsSo, Cond.code yX8_standsSo cX8_standsSo 4 (some .int), Cond.methodLink RX8 75 yX8_lengthOf, Cond.static yX8_lengthOf, Cond.code yX8_lengthOf cX8_lengthOf 3 (some .int), Cond.methodLink RX8 123 yX8_letterOf, Cond.static yX8_letterOf, Cond.code yX8_letterOf cX8_letterOf 5 (some .int)]
def wsX8_growing : List Cond := .code yX8_growing cX8_growing 3 (some .int) :: ((wsX8_growing_r1 ++ (wsX8_growing_r2 ++ wsX8_growing_r3)) ++ wsX80)
def wsX8_least_r1 : List Cond := [Cond.methodLink RX8 163 yX8_leastOf, Cond.instanceMethod yX8_leastOf, Cond.selects RX8 yX8_leastOf yX8_leastOf, Cond.initialized RX8, Cond.code yX8_leastOf cX8_leastOf 6 (some .int), Cond.fieldLink RX8 7 "SyllableBookModel" "state" "[I", Cond.methodLink RX8 120 yX8_lossOf, Cond.instanceMethod yX8_lossOf, Cond.selects RX8 yX8_lossOf yX8_lossOf, Cond.code yX8_lossOf cX8_lossOf 4 (some .int), Cond.fieldLink RX8 13 "SyllableBookModel" "kept" "[I", Cond.methodLink RX8 113 yX8_allCosts, Cond.instanceMethod yX8_allCosts, Cond.selects RX8 yX8_allCosts yX8_allCosts, Cond.code yX8_allCosts cX8_allCosts 3 (some .int), Cond.methodLink RX8 102 yX8_costOf, Cond.instanceMethod yX8_costOf, Cond.selects RX8 yX8_costOf yX8_costOf, Cond.code yX8_costOf cX8_costOf 2 (some .int), Cond.fieldLink RX8 32 "SyllableBookModel" "parts" "[I", Cond.methodLink RX8 95 yX8_findCut, Cond.instanceMethod yX8_findCut, Cond.selects RX8 yX8_findCut yX8_findCut, Cond.code yX8_findCut cX8_findCut 9 none]
def wsX8_least_r2 : List Cond := [Cond.fieldLink RX8 28 "SyllableBookModel" "products" "[J", Cond.fieldLink RX8 35 "SyllableBookModel" "lengths" "[I", Cond.methodLink RX8 72 yX8_wordPart, Cond.instanceMethod yX8_wordPart, Cond.selects RX8 yX8_wordPart yX8_wordPart, Cond.code yX8_wordPart cX8_wordPart 3 (some .int), Cond.methodLink RX8 89 yX8_longestAt, Cond.instanceMethod yX8_longestAt, Cond.selects RX8 yX8_longestAt yX8_longestAt, Cond.code yX8_longestAt cX8_longestAt 4 (some .int), Cond.methodLink RX8 92 yX8_weightIn, Cond.instanceMethod yX8_weightIn, Cond.selects RX8 yX8_weightIn yX8_weightIn, Cond.code yX8_weightIn cX8_weightIn 5 (some .int), Cond.methodLink RX8 82 yX8_textIn, Cond.instanceMethod yX8_textIn, Cond.selects RX8 yX8_textIn yX8_textIn, Cond.code yX8_textIn cX8_textIn 6 (some .int), Cond.methodLink RX8 86 yX8_pieceOf, Cond.instanceMethod yX8_pieceOf, Cond.selects RX8 yX8_pieceOf yX8_pieceOf, Cond.code yX8_pieceOf cX8_pieceOf 4 (some .int), Cond.methodLink RX8 79 yX8_textOf, Cond.instanceMethod yX8_textOf]
def wsX8_least_r3 : List Cond := [Cond.selects RX8 yX8_textOf yX8_textOf, Cond.code yX8_textOf cX8_textOf 4 (some .int), Cond.methodLink RX8 68 yX8_piecePart, Cond.instanceMethod yX8_piecePart, Cond.selects RX8 yX8_piecePart yX8_piecePart, Cond.code yX8_piecePart cX8_piecePart 3 (some .int), Cond.methodLink RX8 99 yX8_unseenIn, Cond.instanceMethod yX8_unseenIn, Cond.selects RX8 yX8_unseenIn yX8_unseenIn, Cond.code yX8_unseenIn cX8_unseenIn 4 (some .int), Cond.methodLink RX8 60 yX8_copy, Cond.static yX8_copy, Cond.code yX8_copy cX8_copy 5 none, Cond.methodLink RX8 117 yX8_dropPiece, Cond.instanceMethod yX8_dropPiece, Cond.selects RX8 yX8_dropPiece yX8_dropPiece, Cond.code yX8_dropPiece cX8_dropPiece 3 none]
def wsX8_least : List Cond := .code yX8_least cX8_least 1 (some .int) :: ((wsX8_least_r1 ++ (wsX8_least_r2 ++ wsX8_least_r3)) ++ wsX80)
def wsX8_put : List Cond := .code yX8_put cX8_put 8 (some .int) :: ([.constantLong RX8 177 (255), .fieldLink RX8 135 "SyllableBookModel" "padLength" "I", .fieldLink RX8 25 "SyllableBookModel" "pad" "[I", .methodLink RX8 64 yX8_within, .static yX8_within, .initialized RX8, .code yX8_within cX8_within 3 (some .boolean)] ++ wsX80)
def wsX8_wipe : List Cond := .code yX8_wipe cX8_wipe 2 (some .int) :: ([.fieldLink RX8 135 "SyllableBookModel" "padLength" "I"] ++ wsX80)
def wsX8_fault : List Cond := .code yX8_fault cX8_fault 2 (some .int) :: ([.fieldLink RX8 135 "SyllableBookModel" "padLength" "I", .fieldLink RX8 25 "SyllableBookModel" "pad" "[I", .methodLink RX8 64 yX8_within, .static yX8_within, .initialized RX8, .code yX8_within cX8_within 3 (some .boolean)] ++ wsX80)
def wsX8_undo : List Cond := .code yX8_undo cX8_undo 1 (some .int) :: ([.fieldLink RX8 56 "SyllableBookModel" "recorded" "I", .fieldLink RX8 16 "SyllableBookModel" "history" "[I", .fieldLink RX8 7 "SyllableBookModel" "state" "[I", .methodLink RX8 60 yX8_copy, .static yX8_copy, .initialized RX8, .code yX8_copy cX8_copy 5 none] ++ wsX80)
def wsX8_save : List Cond := .code yX8_save cX8_save 2 (some .int) :: ([.fieldLink RX8 7 "SyllableBookModel" "state" "[I", .fieldLink RX8 19 "SyllableBookModel" "slots" "[I", .fieldLink RX8 22 "SyllableBookModel" "isSaved" "[I", .methodLink RX8 64 yX8_within, .static yX8_within, .initialized RX8, .code yX8_within cX8_within 3 (some .boolean), .methodLink RX8 60 yX8_copy, .static yX8_copy, .code yX8_copy cX8_copy 5 none] ++ wsX80)
def wsX8_restore : List Cond := .code yX8_restore cX8_restore 2 (some .int) :: ([.fieldLink RX8 22 "SyllableBookModel" "isSaved" "[I", .fieldLink RX8 19 "SyllableBookModel" "slots" "[I", .fieldLink RX8 7 "SyllableBookModel" "state" "[I", .methodLink RX8 64 yX8_within, .static yX8_within, .initialized RX8, .code yX8_within cX8_within 3 (some .boolean), .methodLink RX8 144 yX8_record, .instanceMethod yX8_record, .selects RX8 yX8_record yX8_record, .code yX8_record cX8_record 2 none, .fieldLink RX8 56 "SyllableBookModel" "recorded" "I", .fieldLink RX8 16 "SyllableBookModel" "history" "[I", .methodLink RX8 60 yX8_copy, .static yX8_copy, .code yX8_copy cX8_copy 5 none] ++ wsX80)
def wsJ9_max_7cf53 : List Cond := .code yJ9_max_7cf53 cJ9_max_7cf53 2 (some .int) :: ([])
def wsJ9_min_7cf53 : List Cond := .code yJ9_min_7cf53 cJ9_min_7cf53 2 (some .int) :: ([])
abbrev vwCl : List vw_C := [(RX0, TX0, 3), (RX1, TX1, 8), (RX2, TX2, 8), (RX3, TX3, 2), (RX4, TX4, 4), (RX5, TX5, 5), (RX6, TX6, 2), (RX7, TX7, 12), (RX8, TX8, 18)]
end
section
theorem dX0_init_0 : decode cX0_init 0 = .ok (.aload_n 0, 1) := by decide +kernel
theorem dX0_init_1 : decode cX0_init 1 = .ok (.invokespecial 3, 3) := by decide +kernel
theorem dX0_init_4 : decode cX0_init 4 = .ok (.aload_n 0, 1) := by decide +kernel
theorem dX0_init_5 : decode cX0_init 5 = .ok (.bipush 13, 2) := by decide +kernel
theorem dX0_init_7 : decode cX0_init 7 = .ok (.newarray .long, 2) := by decide +kernel
theorem dX0_init_9 : decode cX0_init 9 = .ok (.putfield 9, 3) := by decide +kernel
theorem dX0_init_12 : decode cX0_init 12 = .ok (.aload_n 0, 1) := by decide +kernel
theorem dX0_init_13 : decode cX0_init 13 = .ok (.bipush 13, 2) := by decide +kernel
theorem dX0_init_15 : decode cX0_init 15 = .ok (.newarray .long, 2) := by decide +kernel
theorem dX0_init_17 : decode cX0_init 17 = .ok (.putfield 15, 3) := by decide +kernel
theorem dX0_init_20 : decode cX0_init 20 = .ok (.aload_n 0, 1) := by decide +kernel
theorem dX0_init_21 : decode cX0_init 21 = .ok (.bipush 13, 2) := by decide +kernel
theorem dX0_init_23 : decode cX0_init 23 = .ok (.newarray .int, 2) := by decide +kernel
theorem dX0_init_25 : decode cX0_init 25 = .ok (.putfield 18, 3) := by decide +kernel
theorem dX0_init_28 : decode cX0_init 28 = .ok (.return_, 1) := by decide +kernel
set_option maxRecDepth 20000 in
theorem ggX0_find_J7_fill_d0a16 : GoodIn wsX0_find wsJ7_fill_d0a16 := goodIn_r _ [8] (by decide +kernel) (by decide +kernel)
set_option maxRecDepth 20000 in
theorem gX0_find_J7_fill_d0a16 : GoodIn wsX0_find (va_wsS RX0 22 yJ7_fill_d0a16 wsJ7_fill_d0a16) := goodIn_app (goodIn_of _ (by decide +kernel)) ggX0_find_J7_fill_d0a16
set_option maxRecDepth 20000 in
theorem ggX0_find_X4_mostLetters : GoodIn wsX0_find wsX4_mostLetters := goodIn_r _ [13, 14, 15, 16, 17, 18, 40, 41, 42, 43] (by decide +kernel) (by decide +kernel)
set_option maxRecDepth 20000 in
theorem gX0_find_X4_mostLetters : GoodIn wsX0_find (wsV RX0 34 RX4 yX4_mostLetters wsX4_mostLetters) := goodIn_app (goodIn_of _ (by decide +kernel)) ggX0_find_X4_mostLetters
set_option maxRecDepth 20000 in
theorem ggX0_find_X4_weightAt : GoodIn wsX0_find wsX4_weightAt := goodIn_r _ [22, 23, 24, 25, 26, 12, 27, 28, 29, 30, 31, 40, 41, 42, 43] (by decide +kernel) (by decide +kernel)
set_option maxRecDepth 20000 in
theorem gX0_find_X4_weightAt : GoodIn wsX0_find (wsV RX0 38 RX4 yX4_weightAt wsX4_weightAt) := goodIn_app (goodIn_of _ (by decide +kernel)) ggX0_find_X4_weightAt
set_option maxRecDepth 20000 in
theorem ggX0_find_X0_addBehind : GoodIn wsX0_find wsX0_addBehind := goodIn_r _ [36, 3, 4, 9, 10, 11, 12, 13, 14, 15, 16, 17, 18, 19, 20, 21, 22, 23, 24, 25, 26, 27, 28, 29, 30, 31, 37, 38, 39, 40, 41, 42, 43] (by decide +kernel) (by decide +kernel)
set_option maxRecDepth 20000 in
theorem gX0_find_X0_addBehind : GoodIn wsX0_find (wsV RX0 42 RX0 yX0_addBehind wsX0_addBehind) := goodIn_app (goodIn_of _ (by decide +kernel)) ggX0_find_X0_addBehind
theorem dX0_find_0 : decode cX0_find 0 = .ok (.aload_n 0, 1) := by decide +kernel
theorem dX0_find_1 : decode cX0_find 1 = .ok (.getfield 9, 3) := by decide +kernel
theorem dX0_find_4 : decode cX0_find 4 = .ok (.lconst 0, 1) := by decide +kernel
theorem dX0_find_5 : decode cX0_find 5 = .ok (.invokestatic 22, 3) := by decide +kernel
theorem dX0_find_8 : decode cX0_find 8 = .ok (.aload_n 0, 1) := by decide +kernel
theorem dX0_find_9 : decode cX0_find 9 = .ok (.getfield 9, 3) := by decide +kernel
theorem dX0_find_12 : decode cX0_find 12 = .ok (.iconst 0, 1) := by decide +kernel
theorem dX0_find_13 : decode cX0_find 13 = .ok (.lconst 1, 1) := by decide +kernel
theorem dX0_find_14 : decode cX0_find 14 = .ok (.lastore, 1) := by decide +kernel
theorem dX0_find_15 : decode cX0_find 15 = .ok (.iconst 0, 1) := by decide +kernel
theorem dX0_find_16 : decode cX0_find 16 = .ok (.istore_n 2, 1) := by decide +kernel
theorem dX0_find_17 : decode cX0_find 17 = .ok (.iload_n 2, 1) := by decide +kernel
theorem dX0_find_18 : decode cX0_find 18 = .ok (.aload_n 1, 1) := by decide +kernel
theorem dX0_find_19 : decode cX0_find 19 = .ok (.getfield 28, 3) := by decide +kernel
theorem dX0_find_22 : decode cX0_find 22 = .ok (.if_icmp .ge 58, 3) := by decide +kernel
theorem dX0_find_25 : decode cX0_find 25 = .ok (.aload_n 1, 1) := by decide +kernel
theorem dX0_find_26 : decode cX0_find 26 = .ok (.iload_n 2, 1) := by decide +kernel
theorem dX0_find_27 : decode cX0_find 27 = .ok (.invokevirtual 34, 3) := by decide +kernel
theorem dX0_find_30 : decode cX0_find 30 = .ok (.istore_n 3, 1) := by decide +kernel
theorem dX0_find_31 : decode cX0_find 31 = .ok (.iconst 1, 1) := by decide +kernel
theorem dX0_find_32 : decode cX0_find 32 = .ok (.istore 4, 2) := by decide +kernel
theorem dX0_find_34 : decode cX0_find 34 = .ok (.iload 4, 2) := by decide +kernel
theorem dX0_find_36 : decode cX0_find 36 = .ok (.iload_n 3, 1) := by decide +kernel
theorem dX0_find_37 : decode cX0_find 37 = .ok (.if_icmp .gt 37, 3) := by decide +kernel
theorem dX0_find_40 : decode cX0_find 40 = .ok (.aload_n 0, 1) := by decide +kernel
theorem dX0_find_41 : decode cX0_find 41 = .ok (.getfield 9, 3) := by decide +kernel
theorem dX0_find_44 : decode cX0_find 44 = .ok (.iload_n 2, 1) := by decide +kernel
theorem dX0_find_45 : decode cX0_find 45 = .ok (.iload 4, 2) := by decide +kernel
theorem dX0_find_47 : decode cX0_find 47 = .ok (.iadd, 1) := by decide +kernel
theorem dX0_find_48 : decode cX0_find 48 = .ok (.dup2, 1) := by decide +kernel
theorem dX0_find_49 : decode cX0_find 49 = .ok (.laload, 1) := by decide +kernel
theorem dX0_find_50 : decode cX0_find 50 = .ok (.aload_n 0, 1) := by decide +kernel
theorem dX0_find_51 : decode cX0_find 51 = .ok (.getfield 9, 3) := by decide +kernel
theorem dX0_find_54 : decode cX0_find 54 = .ok (.iload_n 2, 1) := by decide +kernel
theorem dX0_find_55 : decode cX0_find 55 = .ok (.laload, 1) := by decide +kernel
theorem dX0_find_56 : decode cX0_find 56 = .ok (.aload_n 1, 1) := by decide +kernel
theorem dX0_find_57 : decode cX0_find 57 = .ok (.iload_n 2, 1) := by decide +kernel
theorem dX0_find_58 : decode cX0_find 58 = .ok (.iload 4, 2) := by decide +kernel
theorem dX0_find_60 : decode cX0_find 60 = .ok (.iconst (-1), 1) := by decide +kernel
theorem dX0_find_61 : decode cX0_find 61 = .ok (.invokevirtual 38, 3) := by decide +kernel
theorem dX0_find_64 : decode cX0_find 64 = .ok (.i2l, 1) := by decide +kernel
theorem dX0_find_65 : decode cX0_find 65 = .ok (.lmul, 1) := by decide +kernel
theorem dX0_find_66 : decode cX0_find 66 = .ok (.ladd, 1) := by decide +kernel
theorem dX0_find_67 : decode cX0_find 67 = .ok (.lastore, 1) := by decide +kernel
theorem dX0_find_68 : decode cX0_find 68 = .ok (.iinc 4 1, 3) := by decide +kernel
theorem dX0_find_71 : decode cX0_find 71 = .ok (.goto (-37), 3) := by decide +kernel
theorem dX0_find_74 : decode cX0_find 74 = .ok (.iinc 2 1, 3) := by decide +kernel
theorem dX0_find_77 : decode cX0_find 77 = .ok (.goto (-60), 3) := by decide +kernel
theorem dX0_find_80 : decode cX0_find 80 = .ok (.aload_n 0, 1) := by decide +kernel
theorem dX0_find_81 : decode cX0_find 81 = .ok (.getfield 15, 3) := by decide +kernel
theorem dX0_find_84 : decode cX0_find 84 = .ok (.aload_n 1, 1) := by decide +kernel
theorem dX0_find_85 : decode cX0_find 85 = .ok (.getfield 28, 3) := by decide +kernel
theorem dX0_find_88 : decode cX0_find 88 = .ok (.lconst 1, 1) := by decide +kernel
theorem dX0_find_89 : decode cX0_find 89 = .ok (.lastore, 1) := by decide +kernel
theorem dX0_find_90 : decode cX0_find 90 = .ok (.aload_n 0, 1) := by decide +kernel
theorem dX0_find_91 : decode cX0_find 91 = .ok (.getfield 18, 3) := by decide +kernel
theorem dX0_find_94 : decode cX0_find 94 = .ok (.aload_n 1, 1) := by decide +kernel
theorem dX0_find_95 : decode cX0_find 95 = .ok (.getfield 28, 3) := by decide +kernel
theorem dX0_find_98 : decode cX0_find 98 = .ok (.iconst 1, 1) := by decide +kernel
theorem dX0_find_99 : decode cX0_find 99 = .ok (.iastore, 1) := by decide +kernel
theorem dX0_find_100 : decode cX0_find 100 = .ok (.aload_n 1, 1) := by decide +kernel
theorem dX0_find_101 : decode cX0_find 101 = .ok (.getfield 28, 3) := by decide +kernel
theorem dX0_find_104 : decode cX0_find 104 = .ok (.iconst 1, 1) := by decide +kernel
theorem dX0_find_105 : decode cX0_find 105 = .ok (.isub, 1) := by decide +kernel
theorem dX0_find_106 : decode cX0_find 106 = .ok (.istore_n 2, 1) := by decide +kernel
theorem dX0_find_107 : decode cX0_find 107 = .ok (.iload_n 2, 1) := by decide +kernel
theorem dX0_find_108 : decode cX0_find 108 = .ok (.ifCond .lt 15, 3) := by decide +kernel
theorem dX0_find_111 : decode cX0_find 111 = .ok (.aload_n 0, 1) := by decide +kernel
theorem dX0_find_112 : decode cX0_find 112 = .ok (.aload_n 1, 1) := by decide +kernel
theorem dX0_find_113 : decode cX0_find 113 = .ok (.iload_n 2, 1) := by decide +kernel
theorem dX0_find_114 : decode cX0_find 114 = .ok (.invokevirtual 42, 3) := by decide +kernel
theorem dX0_find_117 : decode cX0_find 117 = .ok (.iinc 2 (-1), 3) := by decide +kernel
theorem dX0_find_120 : decode cX0_find 120 = .ok (.goto (-13), 3) := by decide +kernel
theorem dX0_find_123 : decode cX0_find 123 = .ok (.return_, 1) := by decide +kernel
set_option maxRecDepth 20000 in
theorem ggX0_addBehind_X4_mostLetters : GoodIn wsX0_addBehind wsX4_mostLetters := goodIn_r _ [7, 8, 9, 10, 11, 12, 29, 30, 31, 32] (by decide +kernel) (by decide +kernel)
set_option maxRecDepth 20000 in
theorem gX0_addBehind_X4_mostLetters : GoodIn wsX0_addBehind (wsV RX0 34 RX4 yX4_mostLetters wsX4_mostLetters) := goodIn_app (goodIn_of _ (by decide +kernel)) ggX0_addBehind_X4_mostLetters
set_option maxRecDepth 20000 in
theorem ggX0_addBehind_X4_weightAt : GoodIn wsX0_addBehind wsX4_weightAt := goodIn_r _ [16, 17, 18, 19, 20, 6, 21, 22, 23, 24, 25, 29, 30, 31, 32] (by decide +kernel) (by decide +kernel)
set_option maxRecDepth 20000 in
theorem gX0_addBehind_X4_weightAt : GoodIn wsX0_addBehind (wsV RX0 38 RX4 yX4_weightAt wsX4_weightAt) := goodIn_app (goodIn_of _ (by decide +kernel)) ggX0_addBehind_X4_weightAt
theorem dX0_addBehind_0 : decode cX0_addBehind 0 = .ok (.aload_n 0, 1) := by decide +kernel
theorem dX0_addBehind_1 : decode cX0_addBehind 1 = .ok (.getfield 15, 3) := by decide +kernel
theorem dX0_addBehind_4 : decode cX0_addBehind 4 = .ok (.iload_n 2, 1) := by decide +kernel
theorem dX0_addBehind_5 : decode cX0_addBehind 5 = .ok (.lconst 0, 1) := by decide +kernel
theorem dX0_addBehind_6 : decode cX0_addBehind 6 = .ok (.lastore, 1) := by decide +kernel
theorem dX0_addBehind_7 : decode cX0_addBehind 7 = .ok (.aload_n 0, 1) := by decide +kernel
theorem dX0_addBehind_8 : decode cX0_addBehind 8 = .ok (.getfield 18, 3) := by decide +kernel
theorem dX0_addBehind_11 : decode cX0_addBehind 11 = .ok (.iload_n 2, 1) := by decide +kernel
theorem dX0_addBehind_12 : decode cX0_addBehind 12 = .ok (.iconst 0, 1) := by decide +kernel
theorem dX0_addBehind_13 : decode cX0_addBehind 13 = .ok (.iastore, 1) := by decide +kernel
theorem dX0_addBehind_14 : decode cX0_addBehind 14 = .ok (.aload_n 1, 1) := by decide +kernel
theorem dX0_addBehind_15 : decode cX0_addBehind 15 = .ok (.iload_n 2, 1) := by decide +kernel
theorem dX0_addBehind_16 : decode cX0_addBehind 16 = .ok (.invokevirtual 34, 3) := by decide +kernel
theorem dX0_addBehind_19 : decode cX0_addBehind 19 = .ok (.istore_n 3, 1) := by decide +kernel
theorem dX0_addBehind_20 : decode cX0_addBehind 20 = .ok (.iconst 1, 1) := by decide +kernel
theorem dX0_addBehind_21 : decode cX0_addBehind 21 = .ok (.istore 4, 2) := by decide +kernel
theorem dX0_addBehind_23 : decode cX0_addBehind 23 = .ok (.iload 4, 2) := by decide +kernel
theorem dX0_addBehind_25 : decode cX0_addBehind 25 = .ok (.iload_n 3, 1) := by decide +kernel
theorem dX0_addBehind_26 : decode cX0_addBehind 26 = .ok (.if_icmp .gt 64, 3) := by decide +kernel
theorem dX0_addBehind_29 : decode cX0_addBehind 29 = .ok (.aload_n 1, 1) := by decide +kernel
theorem dX0_addBehind_30 : decode cX0_addBehind 30 = .ok (.iload_n 2, 1) := by decide +kernel
theorem dX0_addBehind_31 : decode cX0_addBehind 31 = .ok (.iload 4, 2) := by decide +kernel
theorem dX0_addBehind_33 : decode cX0_addBehind 33 = .ok (.iconst (-1), 1) := by decide +kernel
theorem dX0_addBehind_34 : decode cX0_addBehind 34 = .ok (.invokevirtual 38, 3) := by decide +kernel
theorem dX0_addBehind_37 : decode cX0_addBehind 37 = .ok (.istore 5, 2) := by decide +kernel
theorem dX0_addBehind_39 : decode cX0_addBehind 39 = .ok (.aload_n 0, 1) := by decide +kernel
theorem dX0_addBehind_40 : decode cX0_addBehind 40 = .ok (.getfield 15, 3) := by decide +kernel
theorem dX0_addBehind_43 : decode cX0_addBehind 43 = .ok (.iload_n 2, 1) := by decide +kernel
theorem dX0_addBehind_44 : decode cX0_addBehind 44 = .ok (.dup2, 1) := by decide +kernel
theorem dX0_addBehind_45 : decode cX0_addBehind 45 = .ok (.laload, 1) := by decide +kernel
theorem dX0_addBehind_46 : decode cX0_addBehind 46 = .ok (.iload 5, 2) := by decide +kernel
theorem dX0_addBehind_48 : decode cX0_addBehind 48 = .ok (.i2l, 1) := by decide +kernel
theorem dX0_addBehind_49 : decode cX0_addBehind 49 = .ok (.aload_n 0, 1) := by decide +kernel
theorem dX0_addBehind_50 : decode cX0_addBehind 50 = .ok (.getfield 15, 3) := by decide +kernel
theorem dX0_addBehind_53 : decode cX0_addBehind 53 = .ok (.iload_n 2, 1) := by decide +kernel
theorem dX0_addBehind_54 : decode cX0_addBehind 54 = .ok (.iload 4, 2) := by decide +kernel
theorem dX0_addBehind_56 : decode cX0_addBehind 56 = .ok (.iadd, 1) := by decide +kernel
theorem dX0_addBehind_57 : decode cX0_addBehind 57 = .ok (.laload, 1) := by decide +kernel
theorem dX0_addBehind_58 : decode cX0_addBehind 58 = .ok (.lmul, 1) := by decide +kernel
theorem dX0_addBehind_59 : decode cX0_addBehind 59 = .ok (.ladd, 1) := by decide +kernel
theorem dX0_addBehind_60 : decode cX0_addBehind 60 = .ok (.lastore, 1) := by decide +kernel
theorem dX0_addBehind_61 : decode cX0_addBehind 61 = .ok (.iload 5, 2) := by decide +kernel
theorem dX0_addBehind_63 : decode cX0_addBehind 63 = .ok (.ifCond .le 21, 3) := by decide +kernel
theorem dX0_addBehind_66 : decode cX0_addBehind 66 = .ok (.aload_n 0, 1) := by decide +kernel
theorem dX0_addBehind_67 : decode cX0_addBehind 67 = .ok (.getfield 18, 3) := by decide +kernel
theorem dX0_addBehind_70 : decode cX0_addBehind 70 = .ok (.iload_n 2, 1) := by decide +kernel
theorem dX0_addBehind_71 : decode cX0_addBehind 71 = .ok (.dup2, 1) := by decide +kernel
theorem dX0_addBehind_72 : decode cX0_addBehind 72 = .ok (.iaload, 1) := by decide +kernel
theorem dX0_addBehind_73 : decode cX0_addBehind 73 = .ok (.aload_n 0, 1) := by decide +kernel
theorem dX0_addBehind_74 : decode cX0_addBehind 74 = .ok (.getfield 18, 3) := by decide +kernel
theorem dX0_addBehind_77 : decode cX0_addBehind 77 = .ok (.iload_n 2, 1) := by decide +kernel
theorem dX0_addBehind_78 : decode cX0_addBehind 78 = .ok (.iload 4, 2) := by decide +kernel
theorem dX0_addBehind_80 : decode cX0_addBehind 80 = .ok (.iadd, 1) := by decide +kernel
theorem dX0_addBehind_81 : decode cX0_addBehind 81 = .ok (.iaload, 1) := by decide +kernel
theorem dX0_addBehind_82 : decode cX0_addBehind 82 = .ok (.iadd, 1) := by decide +kernel
theorem dX0_addBehind_83 : decode cX0_addBehind 83 = .ok (.iastore, 1) := by decide +kernel
theorem dX0_addBehind_84 : decode cX0_addBehind 84 = .ok (.iinc 4 1, 3) := by decide +kernel
theorem dX0_addBehind_87 : decode cX0_addBehind 87 = .ok (.goto (-64), 3) := by decide +kernel
theorem dX0_addBehind_90 : decode cX0_addBehind 90 = .ok (.return_, 1) := by decide +kernel
theorem dX0_total_0 : decode cX0_total 0 = .ok (.aload_n 0, 1) := by decide +kernel
theorem dX0_total_1 : decode cX0_total 1 = .ok (.getfield 15, 3) := by decide +kernel
theorem dX0_total_4 : decode cX0_total 4 = .ok (.iconst 0, 1) := by decide +kernel
theorem dX0_total_5 : decode cX0_total 5 = .ok (.laload, 1) := by decide +kernel
theorem dX0_total_6 : decode cX0_total 6 = .ok (.lreturn, 1) := by decide +kernel
theorem dX0_cuts_0 : decode cX0_cuts 0 = .ok (.aload_n 0, 1) := by decide +kernel
theorem dX0_cuts_1 : decode cX0_cuts 1 = .ok (.getfield 18, 3) := by decide +kernel
theorem dX0_cuts_4 : decode cX0_cuts 4 = .ok (.iconst 0, 1) := by decide +kernel
theorem dX0_cuts_5 : decode cX0_cuts 5 = .ok (.iaload, 1) := by decide +kernel
theorem dX0_cuts_6 : decode cX0_cuts 6 = .ok (.ireturn, 1) := by decide +kernel
set_option maxRecDepth 20000 in
theorem ggX0_shareOf_X4_mostLetters : GoodIn wsX0_shareOf wsX4_mostLetters := goodIn_r _ [9, 10, 11, 12, 13, 14, 34, 35, 36, 37] (by decide +kernel) (by decide +kernel)
set_option maxRecDepth 20000 in
theorem gX0_shareOf_X4_mostLetters : GoodIn wsX0_shareOf (wsV RX0 34 RX4 yX4_mostLetters wsX4_mostLetters) := goodIn_app (goodIn_of _ (by decide +kernel)) ggX0_shareOf_X4_mostLetters
set_option maxRecDepth 20000 in
theorem ggX0_shareOf_X4_pieceAt : GoodIn wsX0_shareOf wsX4_pieceAt := goodIn_r _ [18, 19, 20, 21, 8, 22, 34, 35, 36, 37] (by decide +kernel) (by decide +kernel)
set_option maxRecDepth 20000 in
theorem gX0_shareOf_X4_pieceAt : GoodIn wsX0_shareOf (wsV RX0 46 RX4 yX4_pieceAt wsX4_pieceAt) := goodIn_app (goodIn_of _ (by decide +kernel)) ggX0_shareOf_X4_pieceAt
set_option maxRecDepth 20000 in
theorem ggX0_shareOf_X4_weightAt : GoodIn wsX0_shareOf wsX4_weightAt := goodIn_r _ [26, 27, 28, 16, 17, 8, 18, 19, 20, 21, 22, 34, 35, 36, 37] (by decide +kernel) (by decide +kernel)
set_option maxRecDepth 20000 in
theorem gX0_shareOf_X4_weightAt : GoodIn wsX0_shareOf (wsV RX0 38 RX4 yX4_weightAt wsX4_weightAt) := goodIn_app (goodIn_of _ (by decide +kernel)) ggX0_shareOf_X4_weightAt
set_option maxRecDepth 20000 in
theorem ggX0_shareOf_X0_total : GoodIn wsX0_shareOf wsX0_total := goodIn_r _ [33, 3, 38, 39, 40] (by decide +kernel) (by decide +kernel)
set_option maxRecDepth 20000 in
theorem gX0_shareOf_X0_total : GoodIn wsX0_shareOf (wsV RX0 50 RX0 yX0_total wsX0_total) := goodIn_app (goodIn_of _ (by decide +kernel)) ggX0_shareOf_X0_total
theorem dX0_shareOf_0 : decode cX0_shareOf 0 = .ok (.lconst 0, 1) := by decide +kernel
theorem dX0_shareOf_1 : decode cX0_shareOf 1 = .ok (.lstore_n 3, 1) := by decide +kernel
theorem dX0_shareOf_2 : decode cX0_shareOf 2 = .ok (.iconst 0, 1) := by decide +kernel
theorem dX0_shareOf_3 : decode cX0_shareOf 3 = .ok (.istore 5, 2) := by decide +kernel
theorem dX0_shareOf_5 : decode cX0_shareOf 5 = .ok (.iload 5, 2) := by decide +kernel
theorem dX0_shareOf_7 : decode cX0_shareOf 7 = .ok (.aload_n 1, 1) := by decide +kernel
theorem dX0_shareOf_8 : decode cX0_shareOf 8 = .ok (.getfield 28, 3) := by decide +kernel
theorem dX0_shareOf_11 : decode cX0_shareOf 11 = .ok (.if_icmp .ge 81, 3) := by decide +kernel
theorem dX0_shareOf_14 : decode cX0_shareOf 14 = .ok (.aload_n 1, 1) := by decide +kernel
theorem dX0_shareOf_15 : decode cX0_shareOf 15 = .ok (.iload 5, 2) := by decide +kernel
theorem dX0_shareOf_17 : decode cX0_shareOf 17 = .ok (.invokevirtual 34, 3) := by decide +kernel
theorem dX0_shareOf_20 : decode cX0_shareOf 20 = .ok (.istore 6, 2) := by decide +kernel
theorem dX0_shareOf_22 : decode cX0_shareOf 22 = .ok (.iconst 1, 1) := by decide +kernel
theorem dX0_shareOf_23 : decode cX0_shareOf 23 = .ok (.istore 7, 2) := by decide +kernel
theorem dX0_shareOf_25 : decode cX0_shareOf 25 = .ok (.iload 7, 2) := by decide +kernel
theorem dX0_shareOf_27 : decode cX0_shareOf 27 = .ok (.iload 6, 2) := by decide +kernel
theorem dX0_shareOf_29 : decode cX0_shareOf 29 = .ok (.if_icmp .gt 57, 3) := by decide +kernel
theorem dX0_shareOf_32 : decode cX0_shareOf 32 = .ok (.aload_n 1, 1) := by decide +kernel
theorem dX0_shareOf_33 : decode cX0_shareOf 33 = .ok (.iload 5, 2) := by decide +kernel
theorem dX0_shareOf_35 : decode cX0_shareOf 35 = .ok (.iload 7, 2) := by decide +kernel
theorem dX0_shareOf_37 : decode cX0_shareOf 37 = .ok (.invokevirtual 46, 3) := by decide +kernel
theorem dX0_shareOf_40 : decode cX0_shareOf 40 = .ok (.iload_n 2, 1) := by decide +kernel
theorem dX0_shareOf_41 : decode cX0_shareOf 41 = .ok (.if_icmp .ne 39, 3) := by decide +kernel
theorem dX0_shareOf_44 : decode cX0_shareOf 44 = .ok (.aload_n 1, 1) := by decide +kernel
theorem dX0_shareOf_45 : decode cX0_shareOf 45 = .ok (.iload 5, 2) := by decide +kernel
theorem dX0_shareOf_47 : decode cX0_shareOf 47 = .ok (.iload 7, 2) := by decide +kernel
theorem dX0_shareOf_49 : decode cX0_shareOf 49 = .ok (.iconst (-1), 1) := by decide +kernel
theorem dX0_shareOf_50 : decode cX0_shareOf 50 = .ok (.invokevirtual 38, 3) := by decide +kernel
theorem dX0_shareOf_53 : decode cX0_shareOf 53 = .ok (.istore 8, 2) := by decide +kernel
theorem dX0_shareOf_55 : decode cX0_shareOf 55 = .ok (.lload_n 3, 1) := by decide +kernel
theorem dX0_shareOf_56 : decode cX0_shareOf 56 = .ok (.aload_n 0, 1) := by decide +kernel
theorem dX0_shareOf_57 : decode cX0_shareOf 57 = .ok (.getfield 9, 3) := by decide +kernel
theorem dX0_shareOf_60 : decode cX0_shareOf 60 = .ok (.iload 5, 2) := by decide +kernel
theorem dX0_shareOf_62 : decode cX0_shareOf 62 = .ok (.laload, 1) := by decide +kernel
theorem dX0_shareOf_63 : decode cX0_shareOf 63 = .ok (.iload 8, 2) := by decide +kernel
theorem dX0_shareOf_65 : decode cX0_shareOf 65 = .ok (.i2l, 1) := by decide +kernel
theorem dX0_shareOf_66 : decode cX0_shareOf 66 = .ok (.lmul, 1) := by decide +kernel
theorem dX0_shareOf_67 : decode cX0_shareOf 67 = .ok (.aload_n 0, 1) := by decide +kernel
theorem dX0_shareOf_68 : decode cX0_shareOf 68 = .ok (.getfield 15, 3) := by decide +kernel
theorem dX0_shareOf_71 : decode cX0_shareOf 71 = .ok (.iload 5, 2) := by decide +kernel
theorem dX0_shareOf_73 : decode cX0_shareOf 73 = .ok (.iload 7, 2) := by decide +kernel
theorem dX0_shareOf_75 : decode cX0_shareOf 75 = .ok (.iadd, 1) := by decide +kernel
theorem dX0_shareOf_76 : decode cX0_shareOf 76 = .ok (.laload, 1) := by decide +kernel
theorem dX0_shareOf_77 : decode cX0_shareOf 77 = .ok (.lmul, 1) := by decide +kernel
theorem dX0_shareOf_78 : decode cX0_shareOf 78 = .ok (.ladd, 1) := by decide +kernel
theorem dX0_shareOf_79 : decode cX0_shareOf 79 = .ok (.lstore_n 3, 1) := by decide +kernel
theorem dX0_shareOf_80 : decode cX0_shareOf 80 = .ok (.iinc 7 1, 3) := by decide +kernel
theorem dX0_shareOf_83 : decode cX0_shareOf 83 = .ok (.goto (-58), 3) := by decide +kernel
theorem dX0_shareOf_86 : decode cX0_shareOf 86 = .ok (.iinc 5 1, 3) := by decide +kernel
theorem dX0_shareOf_89 : decode cX0_shareOf 89 = .ok (.goto (-84), 3) := by decide +kernel
theorem dX0_shareOf_92 : decode cX0_shareOf 92 = .ok (.aload_n 0, 1) := by decide +kernel
theorem dX0_shareOf_93 : decode cX0_shareOf 93 = .ok (.invokevirtual 50, 3) := by decide +kernel
theorem dX0_shareOf_96 : decode cX0_shareOf 96 = .ok (.lconst 0, 1) := by decide +kernel
theorem dX0_shareOf_97 : decode cX0_shareOf 97 = .ok (.lcmp, 1) := by decide +kernel
theorem dX0_shareOf_98 : decode cX0_shareOf 98 = .ok (.ifCond .le 17, 3) := by decide +kernel
theorem dX0_shareOf_101 : decode cX0_shareOf 101 = .ok (.ldc2_w 54, 3) := by decide +kernel
theorem dX0_shareOf_104 : decode cX0_shareOf 104 = .ok (.lload_n 3, 1) := by decide +kernel
theorem dX0_shareOf_105 : decode cX0_shareOf 105 = .ok (.lmul, 1) := by decide +kernel
theorem dX0_shareOf_106 : decode cX0_shareOf 106 = .ok (.aload_n 0, 1) := by decide +kernel
theorem dX0_shareOf_107 : decode cX0_shareOf 107 = .ok (.invokevirtual 50, 3) := by decide +kernel
theorem dX0_shareOf_110 : decode cX0_shareOf 110 = .ok (.ldiv, 1) := by decide +kernel
theorem dX0_shareOf_111 : decode cX0_shareOf 111 = .ok (.l2i, 1) := by decide +kernel
theorem dX0_shareOf_112 : decode cX0_shareOf 112 = .ok (.goto 4, 3) := by decide +kernel
theorem dX0_shareOf_115 : decode cX0_shareOf 115 = .ok (.iconst 0, 1) := by decide +kernel
theorem dX0_shareOf_116 : decode cX0_shareOf 116 = .ok (.ireturn, 1) := by decide +kernel
theorem dX1_init_0 : decode cX1_init 0 = .ok (.aload_n 0, 1) := by decide +kernel
theorem dX1_init_1 : decode cX1_init 1 = .ok (.invokespecial 3, 3) := by decide +kernel
theorem dX1_init_4 : decode cX1_init 4 = .ok (.aload_n 0, 1) := by decide +kernel
theorem dX1_init_5 : decode cX1_init 5 = .ok (.bipush 13, 2) := by decide +kernel
theorem dX1_init_7 : decode cX1_init 7 = .ok (.newarray .long, 2) := by decide +kernel
theorem dX1_init_9 : decode cX1_init 9 = .ok (.putfield 9, 3) := by decide +kernel
theorem dX1_init_12 : decode cX1_init 12 = .ok (.aload_n 0, 1) := by decide +kernel
theorem dX1_init_13 : decode cX1_init 13 = .ok (.bipush 13, 2) := by decide +kernel
theorem dX1_init_15 : decode cX1_init 15 = .ok (.newarray .int, 2) := by decide +kernel
theorem dX1_init_17 : decode cX1_init 17 = .ok (.putfield 15, 3) := by decide +kernel
theorem dX1_init_20 : decode cX1_init 20 = .ok (.aload_n 0, 1) := by decide +kernel
theorem dX1_init_21 : decode cX1_init 21 = .ok (.bipush 13, 2) := by decide +kernel
theorem dX1_init_23 : decode cX1_init 23 = .ok (.newarray .int, 2) := by decide +kernel
theorem dX1_init_25 : decode cX1_init 25 = .ok (.putfield 19, 3) := by decide +kernel
theorem dX1_init_28 : decode cX1_init 28 = .ok (.aload_n 0, 1) := by decide +kernel
theorem dX1_init_29 : decode cX1_init 29 = .ok (.bipush 12, 2) := by decide +kernel
theorem dX1_init_31 : decode cX1_init 31 = .ok (.newarray .int, 2) := by decide +kernel
theorem dX1_init_33 : decode cX1_init 33 = .ok (.putfield 22, 3) := by decide +kernel
theorem dX1_init_36 : decode cX1_init 36 = .ok (.aload_n 0, 1) := by decide +kernel
theorem dX1_init_37 : decode cX1_init 37 = .ok (.bipush 12, 2) := by decide +kernel
theorem dX1_init_39 : decode cX1_init 39 = .ok (.newarray .int, 2) := by decide +kernel
theorem dX1_init_41 : decode cX1_init 41 = .ok (.putfield 25, 3) := by decide +kernel
theorem dX1_init_44 : decode cX1_init 44 = .ok (.aload_n 0, 1) := by decide +kernel
theorem dX1_init_45 : decode cX1_init 45 = .ok (.bipush 12, 2) := by decide +kernel
theorem dX1_init_47 : decode cX1_init 47 = .ok (.newarray .int, 2) := by decide +kernel
theorem dX1_init_49 : decode cX1_init 49 = .ok (.putfield 28, 3) := by decide +kernel
theorem dX1_init_52 : decode cX1_init 52 = .ok (.return_, 1) := by decide +kernel
set_option maxRecDepth 20000 in
theorem ggX1_find_X1_findFirst : GoodIn wsX1_find wsX1_findFirst := goodIn_r _ [8, 1, 3, 9, 10, 11, 12, 13, 14, 15, 16, 17, 18, 19, 20, 21, 22, 23, 24, 25, 26, 27, 28, 29, 30, 31, 32, 43, 44, 45, 46, 47, 48, 49, 50, 51, 52, 53, 54] (by decide +kernel) (by decide +kernel)
set_option maxRecDepth 20000 in
theorem gX1_find_X1_findFirst : GoodIn wsX1_find (wsV RX1 37 RX1 yX1_findFirst wsX1_findFirst) := goodIn_app (goodIn_of _ (by decide +kernel)) ggX1_find_X1_findFirst
set_option maxRecDepth 20000 in
theorem ggX1_find_X1_layOut : GoodIn wsX1_find wsX1_layOut := goodIn_r _ [36, 3, 37, 38, 9, 39, 40, 41, 42, 26, 27, 13, 28, 29, 30, 31, 32, 43, 44, 45, 46, 47, 48, 49, 50, 51, 52, 53, 54] (by decide +kernel) (by decide +kernel)
set_option maxRecDepth 20000 in
theorem gX1_find_X1_layOut : GoodIn wsX1_find (wsV RX1 41 RX1 yX1_layOut wsX1_layOut) := goodIn_app (goodIn_of _ (by decide +kernel)) ggX1_find_X1_layOut
theorem dX1_find_0 : decode cX1_find 0 = .ok (.aload_n 0, 1) := by decide +kernel
theorem dX1_find_1 : decode cX1_find 1 = .ok (.getfield 9, 3) := by decide +kernel
theorem dX1_find_4 : decode cX1_find 4 = .ok (.aload_n 1, 1) := by decide +kernel
theorem dX1_find_5 : decode cX1_find 5 = .ok (.getfield 31, 3) := by decide +kernel
theorem dX1_find_8 : decode cX1_find 8 = .ok (.lconst 1, 1) := by decide +kernel
theorem dX1_find_9 : decode cX1_find 9 = .ok (.lastore, 1) := by decide +kernel
theorem dX1_find_10 : decode cX1_find 10 = .ok (.aload_n 0, 1) := by decide +kernel
theorem dX1_find_11 : decode cX1_find 11 = .ok (.getfield 15, 3) := by decide +kernel
theorem dX1_find_14 : decode cX1_find 14 = .ok (.aload_n 1, 1) := by decide +kernel
theorem dX1_find_15 : decode cX1_find 15 = .ok (.getfield 31, 3) := by decide +kernel
theorem dX1_find_18 : decode cX1_find 18 = .ok (.iconst 0, 1) := by decide +kernel
theorem dX1_find_19 : decode cX1_find 19 = .ok (.iastore, 1) := by decide +kernel
theorem dX1_find_20 : decode cX1_find 20 = .ok (.aload_n 1, 1) := by decide +kernel
theorem dX1_find_21 : decode cX1_find 21 = .ok (.getfield 31, 3) := by decide +kernel
theorem dX1_find_24 : decode cX1_find 24 = .ok (.iconst 1, 1) := by decide +kernel
theorem dX1_find_25 : decode cX1_find 25 = .ok (.isub, 1) := by decide +kernel
theorem dX1_find_26 : decode cX1_find 26 = .ok (.istore_n 3, 1) := by decide +kernel
theorem dX1_find_27 : decode cX1_find 27 = .ok (.iload_n 3, 1) := by decide +kernel
theorem dX1_find_28 : decode cX1_find 28 = .ok (.ifCond .lt 16, 3) := by decide +kernel
theorem dX1_find_31 : decode cX1_find 31 = .ok (.aload_n 0, 1) := by decide +kernel
theorem dX1_find_32 : decode cX1_find 32 = .ok (.aload_n 1, 1) := by decide +kernel
theorem dX1_find_33 : decode cX1_find 33 = .ok (.iload_n 3, 1) := by decide +kernel
theorem dX1_find_34 : decode cX1_find 34 = .ok (.iload_n 2, 1) := by decide +kernel
theorem dX1_find_35 : decode cX1_find 35 = .ok (.invokevirtual 37, 3) := by decide +kernel
theorem dX1_find_38 : decode cX1_find 38 = .ok (.iinc 3 (-1), 3) := by decide +kernel
theorem dX1_find_41 : decode cX1_find 41 = .ok (.goto (-14), 3) := by decide +kernel
theorem dX1_find_44 : decode cX1_find 44 = .ok (.aload_n 0, 1) := by decide +kernel
theorem dX1_find_45 : decode cX1_find 45 = .ok (.aload_n 1, 1) := by decide +kernel
theorem dX1_find_46 : decode cX1_find 46 = .ok (.iload_n 2, 1) := by decide +kernel
theorem dX1_find_47 : decode cX1_find 47 = .ok (.invokevirtual 41, 3) := by decide +kernel
theorem dX1_find_50 : decode cX1_find 50 = .ok (.return_, 1) := by decide +kernel
set_option maxRecDepth 20000 in
theorem ggX1_findFirst_X4_mostLetters : GoodIn wsX1_findFirst wsX4_mostLetters := goodIn_r _ [8, 9, 10, 11, 12, 13, 35, 36, 37, 38] (by decide +kernel) (by decide +kernel)
set_option maxRecDepth 20000 in
theorem gX1_findFirst_X4_mostLetters : GoodIn wsX1_findFirst (wsV RX1 45 RX4 yX4_mostLetters wsX4_mostLetters) := goodIn_app (goodIn_of _ (by decide +kernel)) ggX1_findFirst_X4_mostLetters
set_option maxRecDepth 20000 in
theorem ggX1_findFirst_X4_weightAt : GoodIn wsX1_findFirst wsX4_weightAt := goodIn_r _ [17, 18, 19, 20, 21, 7, 22, 23, 24, 25, 26, 35, 36, 37, 38] (by decide +kernel) (by decide +kernel)
set_option maxRecDepth 20000 in
theorem gX1_findFirst_X4_weightAt : GoodIn wsX1_findFirst (wsV RX1 49 RX4 yX4_weightAt wsX4_weightAt) := goodIn_app (goodIn_of _ (by decide +kernel)) ggX1_findFirst_X4_weightAt
theorem dX1_findFirst_0 : decode cX1_findFirst 0 = .ok (.aload_n 0, 1) := by decide +kernel
theorem dX1_findFirst_1 : decode cX1_findFirst 1 = .ok (.getfield 9, 3) := by decide +kernel
theorem dX1_findFirst_4 : decode cX1_findFirst 4 = .ok (.iload_n 2, 1) := by decide +kernel
theorem dX1_findFirst_5 : decode cX1_findFirst 5 = .ok (.lconst 0, 1) := by decide +kernel
theorem dX1_findFirst_6 : decode cX1_findFirst 6 = .ok (.lastore, 1) := by decide +kernel
theorem dX1_findFirst_7 : decode cX1_findFirst 7 = .ok (.aload_n 0, 1) := by decide +kernel
theorem dX1_findFirst_8 : decode cX1_findFirst 8 = .ok (.getfield 15, 3) := by decide +kernel
theorem dX1_findFirst_11 : decode cX1_findFirst 11 = .ok (.iload_n 2, 1) := by decide +kernel
theorem dX1_findFirst_12 : decode cX1_findFirst 12 = .ok (.iconst 0, 1) := by decide +kernel
theorem dX1_findFirst_13 : decode cX1_findFirst 13 = .ok (.iastore, 1) := by decide +kernel
theorem dX1_findFirst_14 : decode cX1_findFirst 14 = .ok (.aload_n 1, 1) := by decide +kernel
theorem dX1_findFirst_15 : decode cX1_findFirst 15 = .ok (.iload_n 2, 1) := by decide +kernel
theorem dX1_findFirst_16 : decode cX1_findFirst 16 = .ok (.invokevirtual 45, 3) := by decide +kernel
theorem dX1_findFirst_19 : decode cX1_findFirst 19 = .ok (.istore 4, 2) := by decide +kernel
theorem dX1_findFirst_21 : decode cX1_findFirst 21 = .ok (.iconst 1, 1) := by decide +kernel
theorem dX1_findFirst_22 : decode cX1_findFirst 22 = .ok (.istore 5, 2) := by decide +kernel
theorem dX1_findFirst_24 : decode cX1_findFirst 24 = .ok (.iload 5, 2) := by decide +kernel
theorem dX1_findFirst_26 : decode cX1_findFirst 26 = .ok (.iload 4, 2) := by decide +kernel
theorem dX1_findFirst_28 : decode cX1_findFirst 28 = .ok (.if_icmp .gt 111, 3) := by decide +kernel
theorem dX1_findFirst_31 : decode cX1_findFirst 31 = .ok (.aload_n 1, 1) := by decide +kernel
theorem dX1_findFirst_32 : decode cX1_findFirst 32 = .ok (.iload_n 2, 1) := by decide +kernel
theorem dX1_findFirst_33 : decode cX1_findFirst 33 = .ok (.iload 5, 2) := by decide +kernel
theorem dX1_findFirst_35 : decode cX1_findFirst 35 = .ok (.iload_n 3, 1) := by decide +kernel
theorem dX1_findFirst_36 : decode cX1_findFirst 36 = .ok (.invokevirtual 49, 3) := by decide +kernel
theorem dX1_findFirst_39 : decode cX1_findFirst 39 = .ok (.istore 6, 2) := by decide +kernel
theorem dX1_findFirst_41 : decode cX1_findFirst 41 = .ok (.iload 6, 2) := by decide +kernel
theorem dX1_findFirst_43 : decode cX1_findFirst 43 = .ok (.i2l, 1) := by decide +kernel
theorem dX1_findFirst_44 : decode cX1_findFirst 44 = .ok (.aload_n 0, 1) := by decide +kernel
theorem dX1_findFirst_45 : decode cX1_findFirst 45 = .ok (.getfield 9, 3) := by decide +kernel
theorem dX1_findFirst_48 : decode cX1_findFirst 48 = .ok (.iload_n 2, 1) := by decide +kernel
theorem dX1_findFirst_49 : decode cX1_findFirst 49 = .ok (.iload 5, 2) := by decide +kernel
theorem dX1_findFirst_51 : decode cX1_findFirst 51 = .ok (.iadd, 1) := by decide +kernel
theorem dX1_findFirst_52 : decode cX1_findFirst 52 = .ok (.laload, 1) := by decide +kernel
theorem dX1_findFirst_53 : decode cX1_findFirst 53 = .ok (.lmul, 1) := by decide +kernel
theorem dX1_findFirst_54 : decode cX1_findFirst 54 = .ok (.lstore 7, 2) := by decide +kernel
theorem dX1_findFirst_56 : decode cX1_findFirst 56 = .ok (.iconst 1, 1) := by decide +kernel
theorem dX1_findFirst_57 : decode cX1_findFirst 57 = .ok (.aload_n 0, 1) := by decide +kernel
theorem dX1_findFirst_58 : decode cX1_findFirst 58 = .ok (.getfield 15, 3) := by decide +kernel
theorem dX1_findFirst_61 : decode cX1_findFirst 61 = .ok (.iload_n 2, 1) := by decide +kernel
theorem dX1_findFirst_62 : decode cX1_findFirst 62 = .ok (.iload 5, 2) := by decide +kernel
theorem dX1_findFirst_64 : decode cX1_findFirst 64 = .ok (.iadd, 1) := by decide +kernel
theorem dX1_findFirst_65 : decode cX1_findFirst 65 = .ok (.iaload, 1) := by decide +kernel
theorem dX1_findFirst_66 : decode cX1_findFirst 66 = .ok (.iadd, 1) := by decide +kernel
theorem dX1_findFirst_67 : decode cX1_findFirst 67 = .ok (.istore 9, 2) := by decide +kernel
theorem dX1_findFirst_69 : decode cX1_findFirst 69 = .ok (.iload 6, 2) := by decide +kernel
theorem dX1_findFirst_71 : decode cX1_findFirst 71 = .ok (.ifCond .le 62, 3) := by decide +kernel
theorem dX1_findFirst_74 : decode cX1_findFirst 74 = .ok (.lload 7, 2) := by decide +kernel
theorem dX1_findFirst_76 : decode cX1_findFirst 76 = .ok (.aload_n 0, 1) := by decide +kernel
theorem dX1_findFirst_77 : decode cX1_findFirst 77 = .ok (.getfield 9, 3) := by decide +kernel
theorem dX1_findFirst_80 : decode cX1_findFirst 80 = .ok (.iload_n 2, 1) := by decide +kernel
theorem dX1_findFirst_81 : decode cX1_findFirst 81 = .ok (.laload, 1) := by decide +kernel
theorem dX1_findFirst_82 : decode cX1_findFirst 82 = .ok (.lcmp, 1) := by decide +kernel
theorem dX1_findFirst_83 : decode cX1_findFirst 83 = .ok (.ifCond .gt 26, 3) := by decide +kernel
theorem dX1_findFirst_86 : decode cX1_findFirst 86 = .ok (.lload 7, 2) := by decide +kernel
theorem dX1_findFirst_88 : decode cX1_findFirst 88 = .ok (.aload_n 0, 1) := by decide +kernel
theorem dX1_findFirst_89 : decode cX1_findFirst 89 = .ok (.getfield 9, 3) := by decide +kernel
theorem dX1_findFirst_92 : decode cX1_findFirst 92 = .ok (.iload_n 2, 1) := by decide +kernel
theorem dX1_findFirst_93 : decode cX1_findFirst 93 = .ok (.laload, 1) := by decide +kernel
theorem dX1_findFirst_94 : decode cX1_findFirst 94 = .ok (.lcmp, 1) := by decide +kernel
theorem dX1_findFirst_95 : decode cX1_findFirst 95 = .ok (.ifCond .ne 38, 3) := by decide +kernel
theorem dX1_findFirst_98 : decode cX1_findFirst 98 = .ok (.iload 9, 2) := by decide +kernel
theorem dX1_findFirst_100 : decode cX1_findFirst 100 = .ok (.aload_n 0, 1) := by decide +kernel
theorem dX1_findFirst_101 : decode cX1_findFirst 101 = .ok (.getfield 15, 3) := by decide +kernel
theorem dX1_findFirst_104 : decode cX1_findFirst 104 = .ok (.iload_n 2, 1) := by decide +kernel
theorem dX1_findFirst_105 : decode cX1_findFirst 105 = .ok (.iaload, 1) := by decide +kernel
theorem dX1_findFirst_106 : decode cX1_findFirst 106 = .ok (.if_icmp .gt 27, 3) := by decide +kernel
theorem dX1_findFirst_109 : decode cX1_findFirst 109 = .ok (.aload_n 0, 1) := by decide +kernel
theorem dX1_findFirst_110 : decode cX1_findFirst 110 = .ok (.getfield 9, 3) := by decide +kernel
theorem dX1_findFirst_113 : decode cX1_findFirst 113 = .ok (.iload_n 2, 1) := by decide +kernel
theorem dX1_findFirst_114 : decode cX1_findFirst 114 = .ok (.lload 7, 2) := by decide +kernel
theorem dX1_findFirst_116 : decode cX1_findFirst 116 = .ok (.lastore, 1) := by decide +kernel
theorem dX1_findFirst_117 : decode cX1_findFirst 117 = .ok (.aload_n 0, 1) := by decide +kernel
theorem dX1_findFirst_118 : decode cX1_findFirst 118 = .ok (.getfield 15, 3) := by decide +kernel
theorem dX1_findFirst_121 : decode cX1_findFirst 121 = .ok (.iload_n 2, 1) := by decide +kernel
theorem dX1_findFirst_122 : decode cX1_findFirst 122 = .ok (.iload 9, 2) := by decide +kernel
theorem dX1_findFirst_124 : decode cX1_findFirst 124 = .ok (.iastore, 1) := by decide +kernel
theorem dX1_findFirst_125 : decode cX1_findFirst 125 = .ok (.aload_n 0, 1) := by decide +kernel
theorem dX1_findFirst_126 : decode cX1_findFirst 126 = .ok (.getfield 19, 3) := by decide +kernel
theorem dX1_findFirst_129 : decode cX1_findFirst 129 = .ok (.iload_n 2, 1) := by decide +kernel
theorem dX1_findFirst_130 : decode cX1_findFirst 130 = .ok (.iload 5, 2) := by decide +kernel
theorem dX1_findFirst_132 : decode cX1_findFirst 132 = .ok (.iastore, 1) := by decide +kernel
theorem dX1_findFirst_133 : decode cX1_findFirst 133 = .ok (.iinc 5 1, 3) := by decide +kernel
theorem dX1_findFirst_136 : decode cX1_findFirst 136 = .ok (.goto (-112), 3) := by decide +kernel
theorem dX1_findFirst_139 : decode cX1_findFirst 139 = .ok (.return_, 1) := by decide +kernel
set_option maxRecDepth 20000 in
theorem ggX1_layOut_X4_pieceAt : GoodIn wsX1_layOut wsX4_pieceAt := goodIn_r _ [12, 13, 14, 15, 11, 16, 25, 26, 27, 28] (by decide +kernel) (by decide +kernel)
set_option maxRecDepth 20000 in
theorem gX1_layOut_X4_pieceAt : GoodIn wsX1_layOut (wsV RX1 59 RX4 yX4_pieceAt wsX4_pieceAt) := goodIn_app (goodIn_of _ (by decide +kernel)) ggX1_layOut_X4_pieceAt
theorem dX1_layOut_0 : decode cX1_layOut 0 = .ok (.aload_n 0, 1) := by decide +kernel
theorem dX1_layOut_1 : decode cX1_layOut 1 = .ok (.aload_n 0, 1) := by decide +kernel
theorem dX1_layOut_2 : decode cX1_layOut 2 = .ok (.getfield 15, 3) := by decide +kernel
theorem dX1_layOut_5 : decode cX1_layOut 5 = .ok (.iconst 0, 1) := by decide +kernel
theorem dX1_layOut_6 : decode cX1_layOut 6 = .ok (.iaload, 1) := by decide +kernel
theorem dX1_layOut_7 : decode cX1_layOut 7 = .ok (.putfield 53, 3) := by decide +kernel
theorem dX1_layOut_10 : decode cX1_layOut 10 = .ok (.aload_n 0, 1) := by decide +kernel
theorem dX1_layOut_11 : decode cX1_layOut 11 = .ok (.iconst 0, 1) := by decide +kernel
theorem dX1_layOut_12 : decode cX1_layOut 12 = .ok (.putfield 56, 3) := by decide +kernel
theorem dX1_layOut_15 : decode cX1_layOut 15 = .ok (.iconst 0, 1) := by decide +kernel
theorem dX1_layOut_16 : decode cX1_layOut 16 = .ok (.istore_n 3, 1) := by decide +kernel
theorem dX1_layOut_17 : decode cX1_layOut 17 = .ok (.iconst 0, 1) := by decide +kernel
theorem dX1_layOut_18 : decode cX1_layOut 18 = .ok (.istore 4, 2) := by decide +kernel
theorem dX1_layOut_20 : decode cX1_layOut 20 = .ok (.iload 4, 2) := by decide +kernel
theorem dX1_layOut_22 : decode cX1_layOut 22 = .ok (.aload_n 0, 1) := by decide +kernel
theorem dX1_layOut_23 : decode cX1_layOut 23 = .ok (.getfield 53, 3) := by decide +kernel
theorem dX1_layOut_26 : decode cX1_layOut 26 = .ok (.if_icmp .ge 88, 3) := by decide +kernel
theorem dX1_layOut_29 : decode cX1_layOut 29 = .ok (.aload_n 0, 1) := by decide +kernel
theorem dX1_layOut_30 : decode cX1_layOut 30 = .ok (.getfield 19, 3) := by decide +kernel
theorem dX1_layOut_33 : decode cX1_layOut 33 = .ok (.iload_n 3, 1) := by decide +kernel
theorem dX1_layOut_34 : decode cX1_layOut 34 = .ok (.iaload, 1) := by decide +kernel
theorem dX1_layOut_35 : decode cX1_layOut 35 = .ok (.istore 5, 2) := by decide +kernel
theorem dX1_layOut_37 : decode cX1_layOut 37 = .ok (.aload_n 1, 1) := by decide +kernel
theorem dX1_layOut_38 : decode cX1_layOut 38 = .ok (.iload_n 3, 1) := by decide +kernel
theorem dX1_layOut_39 : decode cX1_layOut 39 = .ok (.iload 5, 2) := by decide +kernel
theorem dX1_layOut_41 : decode cX1_layOut 41 = .ok (.invokevirtual 59, 3) := by decide +kernel
theorem dX1_layOut_44 : decode cX1_layOut 44 = .ok (.istore 6, 2) := by decide +kernel
theorem dX1_layOut_46 : decode cX1_layOut 46 = .ok (.aload_n 0, 1) := by decide +kernel
theorem dX1_layOut_47 : decode cX1_layOut 47 = .ok (.getfield 22, 3) := by decide +kernel
theorem dX1_layOut_50 : decode cX1_layOut 50 = .ok (.iload 4, 2) := by decide +kernel
theorem dX1_layOut_52 : decode cX1_layOut 52 = .ok (.iload 6, 2) := by decide +kernel
theorem dX1_layOut_54 : decode cX1_layOut 54 = .ok (.iload_n 2, 1) := by decide +kernel
theorem dX1_layOut_55 : decode cX1_layOut 55 = .ok (.if_icmp .ne 7, 3) := by decide +kernel
theorem dX1_layOut_58 : decode cX1_layOut 58 = .ok (.iconst (-1), 1) := by decide +kernel
theorem dX1_layOut_59 : decode cX1_layOut 59 = .ok (.goto 5, 3) := by decide +kernel
theorem dX1_layOut_62 : decode cX1_layOut 62 = .ok (.iload 6, 2) := by decide +kernel
theorem dX1_layOut_64 : decode cX1_layOut 64 = .ok (.iastore, 1) := by decide +kernel
theorem dX1_layOut_65 : decode cX1_layOut 65 = .ok (.aload_n 0, 1) := by decide +kernel
theorem dX1_layOut_66 : decode cX1_layOut 66 = .ok (.getfield 25, 3) := by decide +kernel
theorem dX1_layOut_69 : decode cX1_layOut 69 = .ok (.iload 4, 2) := by decide +kernel
theorem dX1_layOut_71 : decode cX1_layOut 71 = .ok (.iload_n 3, 1) := by decide +kernel
theorem dX1_layOut_72 : decode cX1_layOut 72 = .ok (.iastore, 1) := by decide +kernel
theorem dX1_layOut_73 : decode cX1_layOut 73 = .ok (.aload_n 0, 1) := by decide +kernel
theorem dX1_layOut_74 : decode cX1_layOut 74 = .ok (.getfield 28, 3) := by decide +kernel
theorem dX1_layOut_77 : decode cX1_layOut 77 = .ok (.iload 4, 2) := by decide +kernel
theorem dX1_layOut_79 : decode cX1_layOut 79 = .ok (.iload 5, 2) := by decide +kernel
theorem dX1_layOut_81 : decode cX1_layOut 81 = .ok (.iastore, 1) := by decide +kernel
theorem dX1_layOut_82 : decode cX1_layOut 82 = .ok (.aload_n 0, 1) := by decide +kernel
theorem dX1_layOut_83 : decode cX1_layOut 83 = .ok (.getfield 22, 3) := by decide +kernel
theorem dX1_layOut_86 : decode cX1_layOut 86 = .ok (.iload 4, 2) := by decide +kernel
theorem dX1_layOut_88 : decode cX1_layOut 88 = .ok (.iaload, 1) := by decide +kernel
theorem dX1_layOut_89 : decode cX1_layOut 89 = .ok (.iconst (-1), 1) := by decide +kernel
theorem dX1_layOut_90 : decode cX1_layOut 90 = .ok (.if_icmp .ne 13, 3) := by decide +kernel
theorem dX1_layOut_93 : decode cX1_layOut 93 = .ok (.aload_n 0, 1) := by decide +kernel
theorem dX1_layOut_94 : decode cX1_layOut 94 = .ok (.dup, 1) := by decide +kernel
theorem dX1_layOut_95 : decode cX1_layOut 95 = .ok (.getfield 56, 3) := by decide +kernel
theorem dX1_layOut_98 : decode cX1_layOut 98 = .ok (.iconst 1, 1) := by decide +kernel
theorem dX1_layOut_99 : decode cX1_layOut 99 = .ok (.iadd, 1) := by decide +kernel
theorem dX1_layOut_100 : decode cX1_layOut 100 = .ok (.putfield 56, 3) := by decide +kernel
theorem dX1_layOut_103 : decode cX1_layOut 103 = .ok (.iload_n 3, 1) := by decide +kernel
theorem dX1_layOut_104 : decode cX1_layOut 104 = .ok (.iload 5, 2) := by decide +kernel
theorem dX1_layOut_106 : decode cX1_layOut 106 = .ok (.iadd, 1) := by decide +kernel
theorem dX1_layOut_107 : decode cX1_layOut 107 = .ok (.istore_n 3, 1) := by decide +kernel
theorem dX1_layOut_108 : decode cX1_layOut 108 = .ok (.iinc 4 1, 3) := by decide +kernel
theorem dX1_layOut_111 : decode cX1_layOut 111 = .ok (.goto (-91), 3) := by decide +kernel
theorem dX1_layOut_114 : decode cX1_layOut 114 = .ok (.return_, 1) := by decide +kernel
theorem dX1_greatestProduct_0 : decode cX1_greatestProduct 0 = .ok (.aload_n 0, 1) := by decide +kernel
theorem dX1_greatestProduct_1 : decode cX1_greatestProduct 1 = .ok (.getfield 9, 3) := by decide +kernel
theorem dX1_greatestProduct_4 : decode cX1_greatestProduct 4 = .ok (.iconst 0, 1) := by decide +kernel
theorem dX1_greatestProduct_5 : decode cX1_greatestProduct 5 = .ok (.laload, 1) := by decide +kernel
theorem dX1_greatestProduct_6 : decode cX1_greatestProduct 6 = .ok (.lreturn, 1) := by decide +kernel
theorem dX1_cost_0 : decode cX1_cost 0 = .ok (.aload_n 0, 1) := by decide +kernel
theorem dX1_cost_1 : decode cX1_cost 1 = .ok (.getfield 53, 3) := by decide +kernel
theorem dX1_cost_4 : decode cX1_cost 4 = .ok (.aload_n 0, 1) := by decide +kernel
theorem dX1_cost_5 : decode cX1_cost 5 = .ok (.getfield 56, 3) := by decide +kernel
theorem dX1_cost_8 : decode cX1_cost 8 = .ok (.iadd, 1) := by decide +kernel
theorem dX1_cost_9 : decode cX1_cost 9 = .ok (.ireturn, 1) := by decide +kernel
theorem dX2_init_0 : decode cX2_init 0 = .ok (.aload_n 0, 1) := by decide +kernel
theorem dX2_init_1 : decode cX2_init 1 = .ok (.invokespecial 3, 3) := by decide +kernel
theorem dX2_init_4 : decode cX2_init 4 = .ok (.aload_n 0, 1) := by decide +kernel
theorem dX2_init_5 : decode cX2_init 5 = .ok (.bipush 16, 2) := by decide +kernel
theorem dX2_init_7 : decode cX2_init 7 = .ok (.newarray .int, 2) := by decide +kernel
theorem dX2_init_9 : decode cX2_init 9 = .ok (.putfield 9, 3) := by decide +kernel
theorem dX2_init_12 : decode cX2_init 12 = .ok (.aload_n 0, 1) := by decide +kernel
theorem dX2_init_13 : decode cX2_init 13 = .ok (.bipush 16, 2) := by decide +kernel
theorem dX2_init_15 : decode cX2_init 15 = .ok (.newarray .int, 2) := by decide +kernel
theorem dX2_init_17 : decode cX2_init 17 = .ok (.putfield 15, 3) := by decide +kernel
theorem dX2_init_20 : decode cX2_init 20 = .ok (.aload_n 0, 1) := by decide +kernel
theorem dX2_init_21 : decode cX2_init 21 = .ok (.bipush 16, 2) := by decide +kernel
theorem dX2_init_23 : decode cX2_init 23 = .ok (.newarray .int, 2) := by decide +kernel
theorem dX2_init_25 : decode cX2_init 25 = .ok (.putfield 18, 3) := by decide +kernel
theorem dX2_init_28 : decode cX2_init 28 = .ok (.aload_n 0, 1) := by decide +kernel
theorem dX2_init_29 : decode cX2_init 29 = .ok (.bipush 8, 2) := by decide +kernel
theorem dX2_init_31 : decode cX2_init 31 = .ok (.newarray .int, 2) := by decide +kernel
theorem dX2_init_33 : decode cX2_init 33 = .ok (.putfield 21, 3) := by decide +kernel
theorem dX2_init_36 : decode cX2_init 36 = .ok (.aload_n 0, 1) := by decide +kernel
theorem dX2_init_37 : decode cX2_init 37 = .ok (.bipush 8, 2) := by decide +kernel
theorem dX2_init_39 : decode cX2_init 39 = .ok (.newarray .int, 2) := by decide +kernel
theorem dX2_init_41 : decode cX2_init 41 = .ok (.putfield 24, 3) := by decide +kernel
theorem dX2_init_44 : decode cX2_init 44 = .ok (.aload_n 0, 1) := by decide +kernel
theorem dX2_init_45 : decode cX2_init 45 = .ok (.bipush 96, 2) := by decide +kernel
theorem dX2_init_47 : decode cX2_init 47 = .ok (.newarray .int, 2) := by decide +kernel
theorem dX2_init_49 : decode cX2_init 49 = .ok (.putfield 27, 3) := by decide +kernel
theorem dX2_init_52 : decode cX2_init 52 = .ok (.return_, 1) := by decide +kernel
theorem dX2_copyFrom_0 : decode cX2_copyFrom 0 = .ok (.aload_n 0, 1) := by decide +kernel
theorem dX2_copyFrom_1 : decode cX2_copyFrom 1 = .ok (.aload_n 1, 1) := by decide +kernel
theorem dX2_copyFrom_2 : decode cX2_copyFrom 2 = .ok (.getfield 30, 3) := by decide +kernel
theorem dX2_copyFrom_5 : decode cX2_copyFrom 5 = .ok (.putfield 30, 3) := by decide +kernel
theorem dX2_copyFrom_8 : decode cX2_copyFrom 8 = .ok (.aload_n 1, 1) := by decide +kernel
theorem dX2_copyFrom_9 : decode cX2_copyFrom 9 = .ok (.getfield 9, 3) := by decide +kernel
theorem dX2_copyFrom_12 : decode cX2_copyFrom 12 = .ok (.iconst 0, 1) := by decide +kernel
theorem dX2_copyFrom_13 : decode cX2_copyFrom 13 = .ok (.aload_n 0, 1) := by decide +kernel
theorem dX2_copyFrom_14 : decode cX2_copyFrom 14 = .ok (.getfield 9, 3) := by decide +kernel
theorem dX2_copyFrom_17 : decode cX2_copyFrom 17 = .ok (.iconst 0, 1) := by decide +kernel
theorem dX2_copyFrom_18 : decode cX2_copyFrom 18 = .ok (.bipush 16, 2) := by decide +kernel
theorem dX2_copyFrom_20 : decode cX2_copyFrom 20 = .ok (.invokestatic 34, 3) := by decide +kernel
theorem dX2_copyFrom_23 : decode cX2_copyFrom 23 = .ok (.aload_n 1, 1) := by decide +kernel
theorem dX2_copyFrom_24 : decode cX2_copyFrom 24 = .ok (.getfield 15, 3) := by decide +kernel
theorem dX2_copyFrom_27 : decode cX2_copyFrom 27 = .ok (.iconst 0, 1) := by decide +kernel
theorem dX2_copyFrom_28 : decode cX2_copyFrom 28 = .ok (.aload_n 0, 1) := by decide +kernel
theorem dX2_copyFrom_29 : decode cX2_copyFrom 29 = .ok (.getfield 15, 3) := by decide +kernel
theorem dX2_copyFrom_32 : decode cX2_copyFrom 32 = .ok (.iconst 0, 1) := by decide +kernel
theorem dX2_copyFrom_33 : decode cX2_copyFrom 33 = .ok (.bipush 16, 2) := by decide +kernel
theorem dX2_copyFrom_35 : decode cX2_copyFrom 35 = .ok (.invokestatic 34, 3) := by decide +kernel
theorem dX2_copyFrom_38 : decode cX2_copyFrom 38 = .ok (.aload_n 1, 1) := by decide +kernel
theorem dX2_copyFrom_39 : decode cX2_copyFrom 39 = .ok (.getfield 18, 3) := by decide +kernel
theorem dX2_copyFrom_42 : decode cX2_copyFrom 42 = .ok (.iconst 0, 1) := by decide +kernel
theorem dX2_copyFrom_43 : decode cX2_copyFrom 43 = .ok (.aload_n 0, 1) := by decide +kernel
theorem dX2_copyFrom_44 : decode cX2_copyFrom 44 = .ok (.getfield 18, 3) := by decide +kernel
theorem dX2_copyFrom_47 : decode cX2_copyFrom 47 = .ok (.iconst 0, 1) := by decide +kernel
theorem dX2_copyFrom_48 : decode cX2_copyFrom 48 = .ok (.bipush 16, 2) := by decide +kernel
theorem dX2_copyFrom_50 : decode cX2_copyFrom 50 = .ok (.invokestatic 34, 3) := by decide +kernel
theorem dX2_copyFrom_53 : decode cX2_copyFrom 53 = .ok (.aload_n 0, 1) := by decide +kernel
theorem dX2_copyFrom_54 : decode cX2_copyFrom 54 = .ok (.aload_n 1, 1) := by decide +kernel
theorem dX2_copyFrom_55 : decode cX2_copyFrom 55 = .ok (.getfield 40, 3) := by decide +kernel
theorem dX2_copyFrom_58 : decode cX2_copyFrom 58 = .ok (.putfield 40, 3) := by decide +kernel
theorem dX2_copyFrom_61 : decode cX2_copyFrom 61 = .ok (.aload_n 1, 1) := by decide +kernel
theorem dX2_copyFrom_62 : decode cX2_copyFrom 62 = .ok (.getfield 21, 3) := by decide +kernel
theorem dX2_copyFrom_65 : decode cX2_copyFrom 65 = .ok (.iconst 0, 1) := by decide +kernel
theorem dX2_copyFrom_66 : decode cX2_copyFrom 66 = .ok (.aload_n 0, 1) := by decide +kernel
theorem dX2_copyFrom_67 : decode cX2_copyFrom 67 = .ok (.getfield 21, 3) := by decide +kernel
theorem dX2_copyFrom_70 : decode cX2_copyFrom 70 = .ok (.iconst 0, 1) := by decide +kernel
theorem dX2_copyFrom_71 : decode cX2_copyFrom 71 = .ok (.bipush 8, 2) := by decide +kernel
theorem dX2_copyFrom_73 : decode cX2_copyFrom 73 = .ok (.invokestatic 34, 3) := by decide +kernel
theorem dX2_copyFrom_76 : decode cX2_copyFrom 76 = .ok (.aload_n 1, 1) := by decide +kernel
theorem dX2_copyFrom_77 : decode cX2_copyFrom 77 = .ok (.getfield 24, 3) := by decide +kernel
theorem dX2_copyFrom_80 : decode cX2_copyFrom 80 = .ok (.iconst 0, 1) := by decide +kernel
theorem dX2_copyFrom_81 : decode cX2_copyFrom 81 = .ok (.aload_n 0, 1) := by decide +kernel
theorem dX2_copyFrom_82 : decode cX2_copyFrom 82 = .ok (.getfield 24, 3) := by decide +kernel
theorem dX2_copyFrom_85 : decode cX2_copyFrom 85 = .ok (.iconst 0, 1) := by decide +kernel
theorem dX2_copyFrom_86 : decode cX2_copyFrom 86 = .ok (.bipush 8, 2) := by decide +kernel
theorem dX2_copyFrom_88 : decode cX2_copyFrom 88 = .ok (.invokestatic 34, 3) := by decide +kernel
theorem dX2_copyFrom_91 : decode cX2_copyFrom 91 = .ok (.aload_n 1, 1) := by decide +kernel
theorem dX2_copyFrom_92 : decode cX2_copyFrom 92 = .ok (.getfield 27, 3) := by decide +kernel
theorem dX2_copyFrom_95 : decode cX2_copyFrom 95 = .ok (.iconst 0, 1) := by decide +kernel
theorem dX2_copyFrom_96 : decode cX2_copyFrom 96 = .ok (.aload_n 0, 1) := by decide +kernel
theorem dX2_copyFrom_97 : decode cX2_copyFrom 97 = .ok (.getfield 27, 3) := by decide +kernel
theorem dX2_copyFrom_100 : decode cX2_copyFrom 100 = .ok (.iconst 0, 1) := by decide +kernel
theorem dX2_copyFrom_101 : decode cX2_copyFrom 101 = .ok (.bipush 96, 2) := by decide +kernel
theorem dX2_copyFrom_103 : decode cX2_copyFrom 103 = .ok (.invokestatic 34, 3) := by decide +kernel
theorem dX2_copyFrom_106 : decode cX2_copyFrom 106 = .ok (.return_, 1) := by decide +kernel
theorem dX2_pieceWith_0 : decode cX2_pieceWith 0 = .ok (.iconst 0, 1) := by decide +kernel
theorem dX2_pieceWith_1 : decode cX2_pieceWith 1 = .ok (.istore_n 2, 1) := by decide +kernel
theorem dX2_pieceWith_2 : decode cX2_pieceWith 2 = .ok (.iload_n 2, 1) := by decide +kernel
theorem dX2_pieceWith_3 : decode cX2_pieceWith 3 = .ok (.aload_n 0, 1) := by decide +kernel
theorem dX2_pieceWith_4 : decode cX2_pieceWith 4 = .ok (.getfield 30, 3) := by decide +kernel
theorem dX2_pieceWith_7 : decode cX2_pieceWith 7 = .ok (.if_icmp .ge 21, 3) := by decide +kernel
theorem dX2_pieceWith_10 : decode cX2_pieceWith 10 = .ok (.aload_n 0, 1) := by decide +kernel
theorem dX2_pieceWith_11 : decode cX2_pieceWith 11 = .ok (.getfield 9, 3) := by decide +kernel
theorem dX2_pieceWith_14 : decode cX2_pieceWith 14 = .ok (.iload_n 2, 1) := by decide +kernel
theorem dX2_pieceWith_15 : decode cX2_pieceWith 15 = .ok (.iaload, 1) := by decide +kernel
theorem dX2_pieceWith_16 : decode cX2_pieceWith 16 = .ok (.iload_n 1, 1) := by decide +kernel
theorem dX2_pieceWith_17 : decode cX2_pieceWith 17 = .ok (.if_icmp .ne 5, 3) := by decide +kernel
theorem dX2_pieceWith_20 : decode cX2_pieceWith 20 = .ok (.iload_n 2, 1) := by decide +kernel
theorem dX2_pieceWith_21 : decode cX2_pieceWith 21 = .ok (.ireturn, 1) := by decide +kernel
theorem dX2_pieceWith_22 : decode cX2_pieceWith 22 = .ok (.iinc 2 1, 3) := by decide +kernel
theorem dX2_pieceWith_25 : decode cX2_pieceWith 25 = .ok (.goto (-23), 3) := by decide +kernel
theorem dX2_pieceWith_28 : decode cX2_pieceWith 28 = .ok (.iconst (-1), 1) := by decide +kernel
theorem dX2_pieceWith_29 : decode cX2_pieceWith 29 = .ok (.ireturn, 1) := by decide +kernel
theorem dX2_addPiece_0 : decode cX2_addPiece 0 = .ok (.aload_n 0, 1) := by decide +kernel
theorem dX2_addPiece_1 : decode cX2_addPiece 1 = .ok (.getfield 30, 3) := by decide +kernel
theorem dX2_addPiece_4 : decode cX2_addPiece 4 = .ok (.bipush 16, 2) := by decide +kernel
theorem dX2_addPiece_6 : decode cX2_addPiece 6 = .ok (.if_icmp .lt 4, 3) := by decide +kernel
theorem dX2_addPiece_9 : decode cX2_addPiece 9 = .ok (.return_, 1) := by decide +kernel
theorem dX2_addPiece_10 : decode cX2_addPiece 10 = .ok (.aload_n 0, 1) := by decide +kernel
theorem dX2_addPiece_11 : decode cX2_addPiece 11 = .ok (.getfield 9, 3) := by decide +kernel
theorem dX2_addPiece_14 : decode cX2_addPiece 14 = .ok (.aload_n 0, 1) := by decide +kernel
theorem dX2_addPiece_15 : decode cX2_addPiece 15 = .ok (.getfield 30, 3) := by decide +kernel
theorem dX2_addPiece_18 : decode cX2_addPiece 18 = .ok (.iload_n 1, 1) := by decide +kernel
theorem dX2_addPiece_19 : decode cX2_addPiece 19 = .ok (.iastore, 1) := by decide +kernel
theorem dX2_addPiece_20 : decode cX2_addPiece 20 = .ok (.aload_n 0, 1) := by decide +kernel
theorem dX2_addPiece_21 : decode cX2_addPiece 21 = .ok (.getfield 15, 3) := by decide +kernel
theorem dX2_addPiece_24 : decode cX2_addPiece 24 = .ok (.aload_n 0, 1) := by decide +kernel
theorem dX2_addPiece_25 : decode cX2_addPiece 25 = .ok (.getfield 30, 3) := by decide +kernel
theorem dX2_addPiece_28 : decode cX2_addPiece 28 = .ok (.iload_n 2, 1) := by decide +kernel
theorem dX2_addPiece_29 : decode cX2_addPiece 29 = .ok (.iastore, 1) := by decide +kernel
theorem dX2_addPiece_30 : decode cX2_addPiece 30 = .ok (.aload_n 0, 1) := by decide +kernel
theorem dX2_addPiece_31 : decode cX2_addPiece 31 = .ok (.getfield 18, 3) := by decide +kernel
theorem dX2_addPiece_34 : decode cX2_addPiece 34 = .ok (.aload_n 0, 1) := by decide +kernel
theorem dX2_addPiece_35 : decode cX2_addPiece 35 = .ok (.getfield 30, 3) := by decide +kernel
theorem dX2_addPiece_38 : decode cX2_addPiece 38 = .ok (.iload_n 3, 1) := by decide +kernel
theorem dX2_addPiece_39 : decode cX2_addPiece 39 = .ok (.iastore, 1) := by decide +kernel
theorem dX2_addPiece_40 : decode cX2_addPiece 40 = .ok (.aload_n 0, 1) := by decide +kernel
theorem dX2_addPiece_41 : decode cX2_addPiece 41 = .ok (.dup, 1) := by decide +kernel
theorem dX2_addPiece_42 : decode cX2_addPiece 42 = .ok (.getfield 30, 3) := by decide +kernel
theorem dX2_addPiece_45 : decode cX2_addPiece 45 = .ok (.iconst 1, 1) := by decide +kernel
theorem dX2_addPiece_46 : decode cX2_addPiece 46 = .ok (.iadd, 1) := by decide +kernel
theorem dX2_addPiece_47 : decode cX2_addPiece 47 = .ok (.putfield 30, 3) := by decide +kernel
theorem dX2_addPiece_50 : decode cX2_addPiece 50 = .ok (.return_, 1) := by decide +kernel
theorem dX2_removePiece_0 : decode cX2_removePiece 0 = .ok (.iload_n 1, 1) := by decide +kernel
theorem dX2_removePiece_1 : decode cX2_removePiece 1 = .ok (.ifCond .lt 11, 3) := by decide +kernel
theorem dX2_removePiece_4 : decode cX2_removePiece 4 = .ok (.iload_n 1, 1) := by decide +kernel
theorem dX2_removePiece_5 : decode cX2_removePiece 5 = .ok (.aload_n 0, 1) := by decide +kernel
theorem dX2_removePiece_6 : decode cX2_removePiece 6 = .ok (.getfield 30, 3) := by decide +kernel
theorem dX2_removePiece_9 : decode cX2_removePiece 9 = .ok (.if_icmp .lt 4, 3) := by decide +kernel
theorem dX2_removePiece_12 : decode cX2_removePiece 12 = .ok (.return_, 1) := by decide +kernel
theorem dX2_removePiece_13 : decode cX2_removePiece 13 = .ok (.aload_n 0, 1) := by decide +kernel
theorem dX2_removePiece_14 : decode cX2_removePiece 14 = .ok (.dup, 1) := by decide +kernel
theorem dX2_removePiece_15 : decode cX2_removePiece 15 = .ok (.getfield 30, 3) := by decide +kernel
theorem dX2_removePiece_18 : decode cX2_removePiece 18 = .ok (.iconst 1, 1) := by decide +kernel
theorem dX2_removePiece_19 : decode cX2_removePiece 19 = .ok (.isub, 1) := by decide +kernel
theorem dX2_removePiece_20 : decode cX2_removePiece 20 = .ok (.putfield 30, 3) := by decide +kernel
theorem dX2_removePiece_23 : decode cX2_removePiece 23 = .ok (.aload_n 0, 1) := by decide +kernel
theorem dX2_removePiece_24 : decode cX2_removePiece 24 = .ok (.getfield 9, 3) := by decide +kernel
theorem dX2_removePiece_27 : decode cX2_removePiece 27 = .ok (.iload_n 1, 1) := by decide +kernel
theorem dX2_removePiece_28 : decode cX2_removePiece 28 = .ok (.iconst 1, 1) := by decide +kernel
theorem dX2_removePiece_29 : decode cX2_removePiece 29 = .ok (.iadd, 1) := by decide +kernel
theorem dX2_removePiece_30 : decode cX2_removePiece 30 = .ok (.aload_n 0, 1) := by decide +kernel
theorem dX2_removePiece_31 : decode cX2_removePiece 31 = .ok (.getfield 9, 3) := by decide +kernel
theorem dX2_removePiece_34 : decode cX2_removePiece 34 = .ok (.iload_n 1, 1) := by decide +kernel
theorem dX2_removePiece_35 : decode cX2_removePiece 35 = .ok (.aload_n 0, 1) := by decide +kernel
theorem dX2_removePiece_36 : decode cX2_removePiece 36 = .ok (.getfield 30, 3) := by decide +kernel
theorem dX2_removePiece_39 : decode cX2_removePiece 39 = .ok (.iload_n 1, 1) := by decide +kernel
theorem dX2_removePiece_40 : decode cX2_removePiece 40 = .ok (.isub, 1) := by decide +kernel
theorem dX2_removePiece_41 : decode cX2_removePiece 41 = .ok (.invokestatic 34, 3) := by decide +kernel
theorem dX2_removePiece_44 : decode cX2_removePiece 44 = .ok (.aload_n 0, 1) := by decide +kernel
theorem dX2_removePiece_45 : decode cX2_removePiece 45 = .ok (.getfield 15, 3) := by decide +kernel
theorem dX2_removePiece_48 : decode cX2_removePiece 48 = .ok (.iload_n 1, 1) := by decide +kernel
theorem dX2_removePiece_49 : decode cX2_removePiece 49 = .ok (.iconst 1, 1) := by decide +kernel
theorem dX2_removePiece_50 : decode cX2_removePiece 50 = .ok (.iadd, 1) := by decide +kernel
theorem dX2_removePiece_51 : decode cX2_removePiece 51 = .ok (.aload_n 0, 1) := by decide +kernel
theorem dX2_removePiece_52 : decode cX2_removePiece 52 = .ok (.getfield 15, 3) := by decide +kernel
theorem dX2_removePiece_55 : decode cX2_removePiece 55 = .ok (.iload_n 1, 1) := by decide +kernel
theorem dX2_removePiece_56 : decode cX2_removePiece 56 = .ok (.aload_n 0, 1) := by decide +kernel
theorem dX2_removePiece_57 : decode cX2_removePiece 57 = .ok (.getfield 30, 3) := by decide +kernel
theorem dX2_removePiece_60 : decode cX2_removePiece 60 = .ok (.iload_n 1, 1) := by decide +kernel
theorem dX2_removePiece_61 : decode cX2_removePiece 61 = .ok (.isub, 1) := by decide +kernel
theorem dX2_removePiece_62 : decode cX2_removePiece 62 = .ok (.invokestatic 34, 3) := by decide +kernel
theorem dX2_removePiece_65 : decode cX2_removePiece 65 = .ok (.aload_n 0, 1) := by decide +kernel
theorem dX2_removePiece_66 : decode cX2_removePiece 66 = .ok (.getfield 18, 3) := by decide +kernel
theorem dX2_removePiece_69 : decode cX2_removePiece 69 = .ok (.iload_n 1, 1) := by decide +kernel
theorem dX2_removePiece_70 : decode cX2_removePiece 70 = .ok (.iconst 1, 1) := by decide +kernel
theorem dX2_removePiece_71 : decode cX2_removePiece 71 = .ok (.iadd, 1) := by decide +kernel
theorem dX2_removePiece_72 : decode cX2_removePiece 72 = .ok (.aload_n 0, 1) := by decide +kernel
theorem dX2_removePiece_73 : decode cX2_removePiece 73 = .ok (.getfield 18, 3) := by decide +kernel
theorem dX2_removePiece_76 : decode cX2_removePiece 76 = .ok (.iload_n 1, 1) := by decide +kernel
theorem dX2_removePiece_77 : decode cX2_removePiece 77 = .ok (.aload_n 0, 1) := by decide +kernel
theorem dX2_removePiece_78 : decode cX2_removePiece 78 = .ok (.getfield 30, 3) := by decide +kernel
theorem dX2_removePiece_81 : decode cX2_removePiece 81 = .ok (.iload_n 1, 1) := by decide +kernel
theorem dX2_removePiece_82 : decode cX2_removePiece 82 = .ok (.isub, 1) := by decide +kernel
theorem dX2_removePiece_83 : decode cX2_removePiece 83 = .ok (.invokestatic 34, 3) := by decide +kernel
theorem dX2_removePiece_86 : decode cX2_removePiece 86 = .ok (.return_, 1) := by decide +kernel
theorem dX2_letterAt_0 : decode cX2_letterAt 0 = .ok (.aload_n 0, 1) := by decide +kernel
theorem dX2_letterAt_1 : decode cX2_letterAt 1 = .ok (.getfield 27, 3) := by decide +kernel
theorem dX2_letterAt_4 : decode cX2_letterAt 4 = .ok (.iload_n 1, 1) := by decide +kernel
theorem dX2_letterAt_5 : decode cX2_letterAt 5 = .ok (.bipush 12, 2) := by decide +kernel
theorem dX2_letterAt_7 : decode cX2_letterAt 7 = .ok (.imul, 1) := by decide +kernel
theorem dX2_letterAt_8 : decode cX2_letterAt 8 = .ok (.iload_n 2, 1) := by decide +kernel
theorem dX2_letterAt_9 : decode cX2_letterAt 9 = .ok (.iadd, 1) := by decide +kernel
theorem dX2_letterAt_10 : decode cX2_letterAt 10 = .ok (.iaload, 1) := by decide +kernel
theorem dX2_letterAt_11 : decode cX2_letterAt 11 = .ok (.ireturn, 1) := by decide +kernel
set_option maxRecDepth 20000 in
theorem ggX2_addWord_X6_letterAt : GoodIn wsX2_addWord wsX6_letterAt := goodIn_r _ [10, 11, 20, 21] (by decide +kernel) (by decide +kernel)
set_option maxRecDepth 20000 in
theorem gX2_addWord_X6_letterAt : GoodIn wsX2_addWord (wsV RX2 48 RX6 yX6_letterAt wsX6_letterAt) := goodIn_app (goodIn_of _ (by decide +kernel)) ggX2_addWord_X6_letterAt
theorem dX2_addWord_0 : decode cX2_addWord 0 = .ok (.aload_n 0, 1) := by decide +kernel
theorem dX2_addWord_1 : decode cX2_addWord 1 = .ok (.getfield 40, 3) := by decide +kernel
theorem dX2_addWord_4 : decode cX2_addWord 4 = .ok (.bipush 8, 2) := by decide +kernel
theorem dX2_addWord_6 : decode cX2_addWord 6 = .ok (.if_icmp .ge 12, 3) := by decide +kernel
theorem dX2_addWord_9 : decode cX2_addWord 9 = .ok (.aload_n 1, 1) := by decide +kernel
theorem dX2_addWord_10 : decode cX2_addWord 10 = .ok (.getfield 43, 3) := by decide +kernel
theorem dX2_addWord_13 : decode cX2_addWord 13 = .ok (.bipush 12, 2) := by decide +kernel
theorem dX2_addWord_15 : decode cX2_addWord 15 = .ok (.if_icmp .le 4, 3) := by decide +kernel
theorem dX2_addWord_18 : decode cX2_addWord 18 = .ok (.return_, 1) := by decide +kernel
theorem dX2_addWord_19 : decode cX2_addWord 19 = .ok (.iconst 0, 1) := by decide +kernel
theorem dX2_addWord_20 : decode cX2_addWord 20 = .ok (.istore_n 3, 1) := by decide +kernel
theorem dX2_addWord_21 : decode cX2_addWord 21 = .ok (.iload_n 3, 1) := by decide +kernel
theorem dX2_addWord_22 : decode cX2_addWord 22 = .ok (.aload_n 1, 1) := by decide +kernel
theorem dX2_addWord_23 : decode cX2_addWord 23 = .ok (.getfield 43, 3) := by decide +kernel
theorem dX2_addWord_26 : decode cX2_addWord 26 = .ok (.if_icmp .ge 28, 3) := by decide +kernel
theorem dX2_addWord_29 : decode cX2_addWord 29 = .ok (.aload_n 0, 1) := by decide +kernel
theorem dX2_addWord_30 : decode cX2_addWord 30 = .ok (.getfield 27, 3) := by decide +kernel
theorem dX2_addWord_33 : decode cX2_addWord 33 = .ok (.aload_n 0, 1) := by decide +kernel
theorem dX2_addWord_34 : decode cX2_addWord 34 = .ok (.getfield 40, 3) := by decide +kernel
theorem dX2_addWord_37 : decode cX2_addWord 37 = .ok (.bipush 12, 2) := by decide +kernel
theorem dX2_addWord_39 : decode cX2_addWord 39 = .ok (.imul, 1) := by decide +kernel
theorem dX2_addWord_40 : decode cX2_addWord 40 = .ok (.iload_n 3, 1) := by decide +kernel
theorem dX2_addWord_41 : decode cX2_addWord 41 = .ok (.iadd, 1) := by decide +kernel
theorem dX2_addWord_42 : decode cX2_addWord 42 = .ok (.aload_n 1, 1) := by decide +kernel
theorem dX2_addWord_43 : decode cX2_addWord 43 = .ok (.iload_n 3, 1) := by decide +kernel
theorem dX2_addWord_44 : decode cX2_addWord 44 = .ok (.invokevirtual 48, 3) := by decide +kernel
theorem dX2_addWord_47 : decode cX2_addWord 47 = .ok (.iastore, 1) := by decide +kernel
theorem dX2_addWord_48 : decode cX2_addWord 48 = .ok (.iinc 3 1, 3) := by decide +kernel
theorem dX2_addWord_51 : decode cX2_addWord 51 = .ok (.goto (-30), 3) := by decide +kernel
theorem dX2_addWord_54 : decode cX2_addWord 54 = .ok (.aload_n 0, 1) := by decide +kernel
theorem dX2_addWord_55 : decode cX2_addWord 55 = .ok (.getfield 21, 3) := by decide +kernel
theorem dX2_addWord_58 : decode cX2_addWord 58 = .ok (.aload_n 0, 1) := by decide +kernel
theorem dX2_addWord_59 : decode cX2_addWord 59 = .ok (.getfield 40, 3) := by decide +kernel
theorem dX2_addWord_62 : decode cX2_addWord 62 = .ok (.aload_n 1, 1) := by decide +kernel
theorem dX2_addWord_63 : decode cX2_addWord 63 = .ok (.getfield 43, 3) := by decide +kernel
theorem dX2_addWord_66 : decode cX2_addWord 66 = .ok (.iastore, 1) := by decide +kernel
theorem dX2_addWord_67 : decode cX2_addWord 67 = .ok (.aload_n 0, 1) := by decide +kernel
theorem dX2_addWord_68 : decode cX2_addWord 68 = .ok (.getfield 24, 3) := by decide +kernel
theorem dX2_addWord_71 : decode cX2_addWord 71 = .ok (.aload_n 0, 1) := by decide +kernel
theorem dX2_addWord_72 : decode cX2_addWord 72 = .ok (.getfield 40, 3) := by decide +kernel
theorem dX2_addWord_75 : decode cX2_addWord 75 = .ok (.iload_n 2, 1) := by decide +kernel
theorem dX2_addWord_76 : decode cX2_addWord 76 = .ok (.iastore, 1) := by decide +kernel
theorem dX2_addWord_77 : decode cX2_addWord 77 = .ok (.aload_n 0, 1) := by decide +kernel
theorem dX2_addWord_78 : decode cX2_addWord 78 = .ok (.dup, 1) := by decide +kernel
theorem dX2_addWord_79 : decode cX2_addWord 79 = .ok (.getfield 40, 3) := by decide +kernel
theorem dX2_addWord_82 : decode cX2_addWord 82 = .ok (.iconst 1, 1) := by decide +kernel
theorem dX2_addWord_83 : decode cX2_addWord 83 = .ok (.iadd, 1) := by decide +kernel
theorem dX2_addWord_84 : decode cX2_addWord 84 = .ok (.putfield 40, 3) := by decide +kernel
theorem dX2_addWord_87 : decode cX2_addWord 87 = .ok (.return_, 1) := by decide +kernel
theorem dX2_removeWord_0 : decode cX2_removeWord 0 = .ok (.iload_n 1, 1) := by decide +kernel
theorem dX2_removeWord_1 : decode cX2_removeWord 1 = .ok (.ifCond .lt 11, 3) := by decide +kernel
theorem dX2_removeWord_4 : decode cX2_removeWord 4 = .ok (.iload_n 1, 1) := by decide +kernel
theorem dX2_removeWord_5 : decode cX2_removeWord 5 = .ok (.aload_n 0, 1) := by decide +kernel
theorem dX2_removeWord_6 : decode cX2_removeWord 6 = .ok (.getfield 40, 3) := by decide +kernel
theorem dX2_removeWord_9 : decode cX2_removeWord 9 = .ok (.if_icmp .lt 4, 3) := by decide +kernel
theorem dX2_removeWord_12 : decode cX2_removeWord 12 = .ok (.return_, 1) := by decide +kernel
theorem dX2_removeWord_13 : decode cX2_removeWord 13 = .ok (.aload_n 0, 1) := by decide +kernel
theorem dX2_removeWord_14 : decode cX2_removeWord 14 = .ok (.dup, 1) := by decide +kernel
theorem dX2_removeWord_15 : decode cX2_removeWord 15 = .ok (.getfield 40, 3) := by decide +kernel
theorem dX2_removeWord_18 : decode cX2_removeWord 18 = .ok (.iconst 1, 1) := by decide +kernel
theorem dX2_removeWord_19 : decode cX2_removeWord 19 = .ok (.isub, 1) := by decide +kernel
theorem dX2_removeWord_20 : decode cX2_removeWord 20 = .ok (.putfield 40, 3) := by decide +kernel
theorem dX2_removeWord_23 : decode cX2_removeWord 23 = .ok (.aload_n 0, 1) := by decide +kernel
theorem dX2_removeWord_24 : decode cX2_removeWord 24 = .ok (.getfield 40, 3) := by decide +kernel
theorem dX2_removeWord_27 : decode cX2_removeWord 27 = .ok (.iload_n 1, 1) := by decide +kernel
theorem dX2_removeWord_28 : decode cX2_removeWord 28 = .ok (.isub, 1) := by decide +kernel
theorem dX2_removeWord_29 : decode cX2_removeWord 29 = .ok (.istore_n 2, 1) := by decide +kernel
theorem dX2_removeWord_30 : decode cX2_removeWord 30 = .ok (.aload_n 0, 1) := by decide +kernel
theorem dX2_removeWord_31 : decode cX2_removeWord 31 = .ok (.getfield 21, 3) := by decide +kernel
theorem dX2_removeWord_34 : decode cX2_removeWord 34 = .ok (.iload_n 1, 1) := by decide +kernel
theorem dX2_removeWord_35 : decode cX2_removeWord 35 = .ok (.iconst 1, 1) := by decide +kernel
theorem dX2_removeWord_36 : decode cX2_removeWord 36 = .ok (.iadd, 1) := by decide +kernel
theorem dX2_removeWord_37 : decode cX2_removeWord 37 = .ok (.aload_n 0, 1) := by decide +kernel
theorem dX2_removeWord_38 : decode cX2_removeWord 38 = .ok (.getfield 21, 3) := by decide +kernel
theorem dX2_removeWord_41 : decode cX2_removeWord 41 = .ok (.iload_n 1, 1) := by decide +kernel
theorem dX2_removeWord_42 : decode cX2_removeWord 42 = .ok (.iload_n 2, 1) := by decide +kernel
theorem dX2_removeWord_43 : decode cX2_removeWord 43 = .ok (.invokestatic 34, 3) := by decide +kernel
theorem dX2_removeWord_46 : decode cX2_removeWord 46 = .ok (.aload_n 0, 1) := by decide +kernel
theorem dX2_removeWord_47 : decode cX2_removeWord 47 = .ok (.getfield 24, 3) := by decide +kernel
theorem dX2_removeWord_50 : decode cX2_removeWord 50 = .ok (.iload_n 1, 1) := by decide +kernel
theorem dX2_removeWord_51 : decode cX2_removeWord 51 = .ok (.iconst 1, 1) := by decide +kernel
theorem dX2_removeWord_52 : decode cX2_removeWord 52 = .ok (.iadd, 1) := by decide +kernel
theorem dX2_removeWord_53 : decode cX2_removeWord 53 = .ok (.aload_n 0, 1) := by decide +kernel
theorem dX2_removeWord_54 : decode cX2_removeWord 54 = .ok (.getfield 24, 3) := by decide +kernel
theorem dX2_removeWord_57 : decode cX2_removeWord 57 = .ok (.iload_n 1, 1) := by decide +kernel
theorem dX2_removeWord_58 : decode cX2_removeWord 58 = .ok (.iload_n 2, 1) := by decide +kernel
theorem dX2_removeWord_59 : decode cX2_removeWord 59 = .ok (.invokestatic 34, 3) := by decide +kernel
theorem dX2_removeWord_62 : decode cX2_removeWord 62 = .ok (.aload_n 0, 1) := by decide +kernel
theorem dX2_removeWord_63 : decode cX2_removeWord 63 = .ok (.getfield 27, 3) := by decide +kernel
theorem dX2_removeWord_66 : decode cX2_removeWord 66 = .ok (.iload_n 1, 1) := by decide +kernel
theorem dX2_removeWord_67 : decode cX2_removeWord 67 = .ok (.iconst 1, 1) := by decide +kernel
theorem dX2_removeWord_68 : decode cX2_removeWord 68 = .ok (.iadd, 1) := by decide +kernel
theorem dX2_removeWord_69 : decode cX2_removeWord 69 = .ok (.bipush 12, 2) := by decide +kernel
theorem dX2_removeWord_71 : decode cX2_removeWord 71 = .ok (.imul, 1) := by decide +kernel
theorem dX2_removeWord_72 : decode cX2_removeWord 72 = .ok (.aload_n 0, 1) := by decide +kernel
theorem dX2_removeWord_73 : decode cX2_removeWord 73 = .ok (.getfield 27, 3) := by decide +kernel
theorem dX2_removeWord_76 : decode cX2_removeWord 76 = .ok (.iload_n 1, 1) := by decide +kernel
theorem dX2_removeWord_77 : decode cX2_removeWord 77 = .ok (.bipush 12, 2) := by decide +kernel
theorem dX2_removeWord_79 : decode cX2_removeWord 79 = .ok (.imul, 1) := by decide +kernel
theorem dX2_removeWord_80 : decode cX2_removeWord 80 = .ok (.iload_n 2, 1) := by decide +kernel
theorem dX2_removeWord_81 : decode cX2_removeWord 81 = .ok (.bipush 12, 2) := by decide +kernel
theorem dX2_removeWord_83 : decode cX2_removeWord 83 = .ok (.imul, 1) := by decide +kernel
theorem dX2_removeWord_84 : decode cX2_removeWord 84 = .ok (.invokestatic 34, 3) := by decide +kernel
theorem dX2_removeWord_87 : decode cX2_removeWord 87 = .ok (.return_, 1) := by decide +kernel
set_option maxRecDepth 20000 in
theorem ggX3_init_X2_init : GoodIn wsX3_init wsX2_init := goodIn_r _ [9, 10, 2, 3, 11, 12, 13, 14, 15, 16, 17, 20, 21, 22, 23, 24, 25, 26, 27] (by decide +kernel) (by decide +kernel)
set_option maxRecDepth 20000 in
theorem gX3_init_X2_init_n17 : GoodIn wsX3_init (wsX2_init) := ggX3_init_X2_init
theorem dX3_init_0 : decode cX3_init 0 = .ok (.aload_n 0, 1) := by decide +kernel
theorem dX3_init_1 : decode cX3_init 1 = .ok (.invokespecial 3, 3) := by decide +kernel
theorem dX3_init_4 : decode cX3_init 4 = .ok (.aload_n 0, 1) := by decide +kernel
theorem dX3_init_5 : decode cX3_init 5 = .ok (.bipush 6, 2) := by decide +kernel
theorem dX3_init_7 : decode cX3_init 7 = .ok (.anewarray 9, 3) := by decide +kernel
theorem dX3_init_10 : decode cX3_init 10 = .ok (.putfield 11, 3) := by decide +kernel
theorem dX3_init_13 : decode cX3_init 13 = .ok (.iconst 0, 1) := by decide +kernel
theorem dX3_init_14 : decode cX3_init 14 = .ok (.istore_n 1, 1) := by decide +kernel
theorem dX3_init_15 : decode cX3_init 15 = .ok (.iload_n 1, 1) := by decide +kernel
theorem dX3_init_16 : decode cX3_init 16 = .ok (.bipush 6, 2) := by decide +kernel
theorem dX3_init_18 : decode cX3_init 18 = .ok (.if_icmp .ge 22, 3) := by decide +kernel
theorem dX3_init_21 : decode cX3_init 21 = .ok (.aload_n 0, 1) := by decide +kernel
theorem dX3_init_22 : decode cX3_init 22 = .ok (.getfield 11, 3) := by decide +kernel
theorem dX3_init_25 : decode cX3_init 25 = .ok (.iload_n 1, 1) := by decide +kernel
theorem dX3_init_26 : decode cX3_init 26 = .ok (.new 9, 3) := by decide +kernel
theorem dX3_init_29 : decode cX3_init 29 = .ok (.dup, 1) := by decide +kernel
theorem dX3_init_30 : decode cX3_init 30 = .ok (.invokespecial 17, 3) := by decide +kernel
theorem dX3_init_33 : decode cX3_init 33 = .ok (.aastore, 1) := by decide +kernel
theorem dX3_init_34 : decode cX3_init 34 = .ok (.iinc 1 1, 3) := by decide +kernel
theorem dX3_init_37 : decode cX3_init 37 = .ok (.goto (-22), 3) := by decide +kernel
theorem dX3_init_40 : decode cX3_init 40 = .ok (.return_, 1) := by decide +kernel
set_option maxRecDepth 20000 in
theorem ggX3_record_X3_dropOldest : GoodIn wsX3_record wsX3_dropOldest := goodIn_r _ [7, 2, 1, 25, 26] (by decide +kernel) (by decide +kernel)
set_option maxRecDepth 20000 in
theorem gX3_record_X3_dropOldest : GoodIn wsX3_record (wsV RX3 22 RX3 yX3_dropOldest wsX3_dropOldest) := goodIn_app (goodIn_of _ (by decide +kernel)) ggX3_record_X3_dropOldest
set_option maxRecDepth 20000 in
theorem ggX3_record_X2_copyFrom : GoodIn wsX3_record wsX2_copyFrom := goodIn_r _ [12, 13, 14, 15, 16, 17, 18, 19, 20, 21, 22, 23, 24, 27, 28, 29, 30, 31, 32, 33, 34] (by decide +kernel) (by decide +kernel)
set_option maxRecDepth 20000 in
theorem gX3_record_X2_copyFrom : GoodIn wsX3_record (wsV RX3 25 RX2 yX2_copyFrom wsX2_copyFrom) := goodIn_app (goodIn_of _ (by decide +kernel)) ggX3_record_X2_copyFrom
theorem dX3_record_0 : decode cX3_record 0 = .ok (.aload_n 0, 1) := by decide +kernel
theorem dX3_record_1 : decode cX3_record 1 = .ok (.getfield 18, 3) := by decide +kernel
theorem dX3_record_4 : decode cX3_record 4 = .ok (.bipush 6, 2) := by decide +kernel
theorem dX3_record_6 : decode cX3_record 6 = .ok (.if_icmp .lt 7, 3) := by decide +kernel
theorem dX3_record_9 : decode cX3_record 9 = .ok (.aload_n 0, 1) := by decide +kernel
theorem dX3_record_10 : decode cX3_record 10 = .ok (.invokevirtual 22, 3) := by decide +kernel
theorem dX3_record_13 : decode cX3_record 13 = .ok (.aload_n 0, 1) := by decide +kernel
theorem dX3_record_14 : decode cX3_record 14 = .ok (.getfield 11, 3) := by decide +kernel
theorem dX3_record_17 : decode cX3_record 17 = .ok (.aload_n 0, 1) := by decide +kernel
theorem dX3_record_18 : decode cX3_record 18 = .ok (.getfield 18, 3) := by decide +kernel
theorem dX3_record_21 : decode cX3_record 21 = .ok (.aaload, 1) := by decide +kernel
theorem dX3_record_22 : decode cX3_record 22 = .ok (.aload_n 1, 1) := by decide +kernel
theorem dX3_record_23 : decode cX3_record 23 = .ok (.invokevirtual 25, 3) := by decide +kernel
theorem dX3_record_26 : decode cX3_record 26 = .ok (.aload_n 0, 1) := by decide +kernel
theorem dX3_record_27 : decode cX3_record 27 = .ok (.dup, 1) := by decide +kernel
theorem dX3_record_28 : decode cX3_record 28 = .ok (.getfield 18, 3) := by decide +kernel
theorem dX3_record_31 : decode cX3_record 31 = .ok (.iconst 1, 1) := by decide +kernel
theorem dX3_record_32 : decode cX3_record 32 = .ok (.iadd, 1) := by decide +kernel
theorem dX3_record_33 : decode cX3_record 33 = .ok (.putfield 18, 3) := by decide +kernel
theorem dX3_record_36 : decode cX3_record 36 = .ok (.return_, 1) := by decide +kernel
theorem dX3_dropOldest_0 : decode cX3_dropOldest 0 = .ok (.aload_n 0, 1) := by decide +kernel
theorem dX3_dropOldest_1 : decode cX3_dropOldest 1 = .ok (.getfield 11, 3) := by decide +kernel
theorem dX3_dropOldest_4 : decode cX3_dropOldest 4 = .ok (.iconst 0, 1) := by decide +kernel
theorem dX3_dropOldest_5 : decode cX3_dropOldest 5 = .ok (.aaload, 1) := by decide +kernel
theorem dX3_dropOldest_6 : decode cX3_dropOldest 6 = .ok (.astore_n 1, 1) := by decide +kernel
theorem dX3_dropOldest_7 : decode cX3_dropOldest 7 = .ok (.iconst 1, 1) := by decide +kernel
theorem dX3_dropOldest_8 : decode cX3_dropOldest 8 = .ok (.istore_n 2, 1) := by decide +kernel
theorem dX3_dropOldest_9 : decode cX3_dropOldest 9 = .ok (.iload_n 2, 1) := by decide +kernel
theorem dX3_dropOldest_10 : decode cX3_dropOldest 10 = .ok (.bipush 6, 2) := by decide +kernel
theorem dX3_dropOldest_12 : decode cX3_dropOldest 12 = .ok (.if_icmp .ge 23, 3) := by decide +kernel
theorem dX3_dropOldest_15 : decode cX3_dropOldest 15 = .ok (.aload_n 0, 1) := by decide +kernel
theorem dX3_dropOldest_16 : decode cX3_dropOldest 16 = .ok (.getfield 11, 3) := by decide +kernel
theorem dX3_dropOldest_19 : decode cX3_dropOldest 19 = .ok (.iload_n 2, 1) := by decide +kernel
theorem dX3_dropOldest_20 : decode cX3_dropOldest 20 = .ok (.iconst 1, 1) := by decide +kernel
theorem dX3_dropOldest_21 : decode cX3_dropOldest 21 = .ok (.isub, 1) := by decide +kernel
theorem dX3_dropOldest_22 : decode cX3_dropOldest 22 = .ok (.aload_n 0, 1) := by decide +kernel
theorem dX3_dropOldest_23 : decode cX3_dropOldest 23 = .ok (.getfield 11, 3) := by decide +kernel
theorem dX3_dropOldest_26 : decode cX3_dropOldest 26 = .ok (.iload_n 2, 1) := by decide +kernel
theorem dX3_dropOldest_27 : decode cX3_dropOldest 27 = .ok (.aaload, 1) := by decide +kernel
theorem dX3_dropOldest_28 : decode cX3_dropOldest 28 = .ok (.aastore, 1) := by decide +kernel
theorem dX3_dropOldest_29 : decode cX3_dropOldest 29 = .ok (.iinc 2 1, 3) := by decide +kernel
theorem dX3_dropOldest_32 : decode cX3_dropOldest 32 = .ok (.goto (-23), 3) := by decide +kernel
theorem dX3_dropOldest_35 : decode cX3_dropOldest 35 = .ok (.aload_n 0, 1) := by decide +kernel
theorem dX3_dropOldest_36 : decode cX3_dropOldest 36 = .ok (.getfield 11, 3) := by decide +kernel
theorem dX3_dropOldest_39 : decode cX3_dropOldest 39 = .ok (.iconst 5, 1) := by decide +kernel
theorem dX3_dropOldest_40 : decode cX3_dropOldest 40 = .ok (.aload_n 1, 1) := by decide +kernel
theorem dX3_dropOldest_41 : decode cX3_dropOldest 41 = .ok (.aastore, 1) := by decide +kernel
theorem dX3_dropOldest_42 : decode cX3_dropOldest 42 = .ok (.aload_n 0, 1) := by decide +kernel
theorem dX3_dropOldest_43 : decode cX3_dropOldest 43 = .ok (.iconst 5, 1) := by decide +kernel
theorem dX3_dropOldest_44 : decode cX3_dropOldest 44 = .ok (.putfield 18, 3) := by decide +kernel
theorem dX3_dropOldest_47 : decode cX3_dropOldest 47 = .ok (.return_, 1) := by decide +kernel
set_option maxRecDepth 20000 in
theorem ggX3_takeBack_X2_copyFrom : GoodIn wsX3_takeBack wsX2_copyFrom := goodIn_r _ [7, 8, 9, 10, 11, 12, 13, 14, 15, 16, 17, 18, 19, 22, 23, 24, 25, 26, 27, 28, 29] (by decide +kernel) (by decide +kernel)
set_option maxRecDepth 20000 in
theorem gX3_takeBack_X2_copyFrom : GoodIn wsX3_takeBack (wsV RX3 25 RX2 yX2_copyFrom wsX2_copyFrom) := goodIn_app (goodIn_of _ (by decide +kernel)) ggX3_takeBack_X2_copyFrom
theorem dX3_takeBack_0 : decode cX3_takeBack 0 = .ok (.aload_n 0, 1) := by decide +kernel
theorem dX3_takeBack_1 : decode cX3_takeBack 1 = .ok (.getfield 18, 3) := by decide +kernel
theorem dX3_takeBack_4 : decode cX3_takeBack 4 = .ok (.ifCond .gt 4, 3) := by decide +kernel
theorem dX3_takeBack_7 : decode cX3_takeBack 7 = .ok (.return_, 1) := by decide +kernel
theorem dX3_takeBack_8 : decode cX3_takeBack 8 = .ok (.aload_n 0, 1) := by decide +kernel
theorem dX3_takeBack_9 : decode cX3_takeBack 9 = .ok (.dup, 1) := by decide +kernel
theorem dX3_takeBack_10 : decode cX3_takeBack 10 = .ok (.getfield 18, 3) := by decide +kernel
theorem dX3_takeBack_13 : decode cX3_takeBack 13 = .ok (.iconst 1, 1) := by decide +kernel
theorem dX3_takeBack_14 : decode cX3_takeBack 14 = .ok (.isub, 1) := by decide +kernel
theorem dX3_takeBack_15 : decode cX3_takeBack 15 = .ok (.putfield 18, 3) := by decide +kernel
theorem dX3_takeBack_18 : decode cX3_takeBack 18 = .ok (.aload_n 1, 1) := by decide +kernel
theorem dX3_takeBack_19 : decode cX3_takeBack 19 = .ok (.aload_n 0, 1) := by decide +kernel
theorem dX3_takeBack_20 : decode cX3_takeBack 20 = .ok (.getfield 11, 3) := by decide +kernel
theorem dX3_takeBack_23 : decode cX3_takeBack 23 = .ok (.aload_n 0, 1) := by decide +kernel
theorem dX3_takeBack_24 : decode cX3_takeBack 24 = .ok (.getfield 18, 3) := by decide +kernel
theorem dX3_takeBack_27 : decode cX3_takeBack 27 = .ok (.aaload, 1) := by decide +kernel
theorem dX3_takeBack_28 : decode cX3_takeBack 28 = .ok (.invokevirtual 25, 3) := by decide +kernel
theorem dX3_takeBack_31 : decode cX3_takeBack 31 = .ok (.return_, 1) := by decide +kernel
theorem dX4_init_0 : decode cX4_init 0 = .ok (.aload_n 0, 1) := by decide +kernel
theorem dX4_init_1 : decode cX4_init 1 = .ok (.invokespecial 3, 3) := by decide +kernel
theorem dX4_init_4 : decode cX4_init 4 = .ok (.aload_n 0, 1) := by decide +kernel
theorem dX4_init_5 : decode cX4_init 5 = .ok (.bipush 48, 2) := by decide +kernel
theorem dX4_init_7 : decode cX4_init 7 = .ok (.newarray .int, 2) := by decide +kernel
theorem dX4_init_9 : decode cX4_init 9 = .ok (.putfield 9, 3) := by decide +kernel
theorem dX4_init_12 : decode cX4_init 12 = .ok (.aload_n 0, 1) := by decide +kernel
theorem dX4_init_13 : decode cX4_init 13 = .ok (.bipush 48, 2) := by decide +kernel
theorem dX4_init_15 : decode cX4_init 15 = .ok (.newarray .int, 2) := by decide +kernel
theorem dX4_init_17 : decode cX4_init 17 = .ok (.putfield 15, 3) := by decide +kernel
theorem dX4_init_20 : decode cX4_init 20 = .ok (.aload_n 0, 1) := by decide +kernel
theorem dX4_init_21 : decode cX4_init 21 = .ok (.bipush 16, 2) := by decide +kernel
theorem dX4_init_23 : decode cX4_init 23 = .ok (.newarray .int, 2) := by decide +kernel
theorem dX4_init_25 : decode cX4_init 25 = .ok (.putfield 18, 3) := by decide +kernel
theorem dX4_init_28 : decode cX4_init 28 = .ok (.return_, 1) := by decide +kernel
set_option maxRecDepth 20000 in
theorem ggX4_read_X4_mostLetters : GoodIn wsX4_read wsX4_mostLetters := goodIn_r _ [15, 2, 16, 17, 18, 19, 43, 44, 45, 46] (by decide +kernel) (by decide +kernel)
set_option maxRecDepth 20000 in
theorem gX4_read_X4_mostLetters : GoodIn wsX4_read (wsV RX4 39 RX4 yX4_mostLetters wsX4_mostLetters) := goodIn_app (goodIn_of _ (by decide +kernel)) ggX4_read_X4_mostLetters
set_option maxRecDepth 20000 in
theorem ggX4_read_X2_letterAt : GoodIn wsX4_read wsX2_letterAt := goodIn_r _ [24, 25, 35, 36, 37, 38, 39, 40, 41, 42] (by decide +kernel) (by decide +kernel)
set_option maxRecDepth 20000 in
theorem gX4_read_X2_letterAt : GoodIn wsX4_read (wsV RX4 43 RX2 yX2_letterAt wsX2_letterAt) := goodIn_app (goodIn_of _ (by decide +kernel)) ggX4_read_X2_letterAt
set_option maxRecDepth 20000 in
theorem ggX4_read_X4_index : GoodIn wsX4_read wsX4_index := goodIn_r _ [28] (by decide +kernel) (by decide +kernel)
set_option maxRecDepth 20000 in
theorem gX4_read_X4_index : GoodIn wsX4_read (va_wsS RX4 47 yX4_index wsX4_index) := goodIn_app (goodIn_of _ (by decide +kernel)) ggX4_read_X4_index
set_option maxRecDepth 20000 in
theorem ggX4_read_X2_pieceWith : GoodIn wsX4_read wsX2_pieceWith := goodIn_r _ [32, 33, 34, 35, 36, 37, 38, 39, 40, 41, 42] (by decide +kernel) (by decide +kernel)
set_option maxRecDepth 20000 in
theorem gX4_read_X2_pieceWith : GoodIn wsX4_read (wsV RX4 50 RX2 yX2_pieceWith wsX2_pieceWith) := goodIn_app (goodIn_of _ (by decide +kernel)) ggX4_read_X2_pieceWith
theorem dX4_read_0 : decode cX4_read 0 = .ok (.aload_n 0, 1) := by decide +kernel
theorem dX4_read_1 : decode cX4_read 1 = .ok (.aload_n 1, 1) := by decide +kernel
theorem dX4_read_2 : decode cX4_read 2 = .ok (.getfield 21, 3) := by decide +kernel
theorem dX4_read_5 : decode cX4_read 5 = .ok (.iload_n 2, 1) := by decide +kernel
theorem dX4_read_6 : decode cX4_read 6 = .ok (.iaload, 1) := by decide +kernel
theorem dX4_read_7 : decode cX4_read 7 = .ok (.putfield 26, 3) := by decide +kernel
theorem dX4_read_10 : decode cX4_read 10 = .ok (.aload_n 1, 1) := by decide +kernel
theorem dX4_read_11 : decode cX4_read 11 = .ok (.getfield 30, 3) := by decide +kernel
theorem dX4_read_14 : decode cX4_read 14 = .ok (.iconst 0, 1) := by decide +kernel
theorem dX4_read_15 : decode cX4_read 15 = .ok (.aload_n 0, 1) := by decide +kernel
theorem dX4_read_16 : decode cX4_read 16 = .ok (.getfield 18, 3) := by decide +kernel
theorem dX4_read_19 : decode cX4_read 19 = .ok (.iconst 0, 1) := by decide +kernel
theorem dX4_read_20 : decode cX4_read 20 = .ok (.bipush 16, 2) := by decide +kernel
theorem dX4_read_22 : decode cX4_read 22 = .ok (.invokestatic 33, 3) := by decide +kernel
theorem dX4_read_25 : decode cX4_read 25 = .ok (.iconst 0, 1) := by decide +kernel
theorem dX4_read_26 : decode cX4_read 26 = .ok (.istore_n 3, 1) := by decide +kernel
theorem dX4_read_27 : decode cX4_read 27 = .ok (.iload_n 3, 1) := by decide +kernel
theorem dX4_read_28 : decode cX4_read 28 = .ok (.aload_n 0, 1) := by decide +kernel
theorem dX4_read_29 : decode cX4_read 29 = .ok (.getfield 26, 3) := by decide +kernel
theorem dX4_read_32 : decode cX4_read 32 = .ok (.if_icmp .ge 85, 3) := by decide +kernel
theorem dX4_read_35 : decode cX4_read 35 = .ok (.aload_n 0, 1) := by decide +kernel
theorem dX4_read_36 : decode cX4_read 36 = .ok (.iload_n 3, 1) := by decide +kernel
theorem dX4_read_37 : decode cX4_read 37 = .ok (.invokevirtual 39, 3) := by decide +kernel
theorem dX4_read_40 : decode cX4_read 40 = .ok (.istore 4, 2) := by decide +kernel
theorem dX4_read_42 : decode cX4_read 42 = .ok (.iconst 0, 1) := by decide +kernel
theorem dX4_read_43 : decode cX4_read 43 = .ok (.istore 5, 2) := by decide +kernel
theorem dX4_read_45 : decode cX4_read 45 = .ok (.iconst 1, 1) := by decide +kernel
theorem dX4_read_46 : decode cX4_read 46 = .ok (.istore 6, 2) := by decide +kernel
theorem dX4_read_48 : decode cX4_read 48 = .ok (.iload 6, 2) := by decide +kernel
theorem dX4_read_50 : decode cX4_read 50 = .ok (.iload 4, 2) := by decide +kernel
theorem dX4_read_52 : decode cX4_read 52 = .ok (.if_icmp .gt 59, 3) := by decide +kernel
theorem dX4_read_55 : decode cX4_read 55 = .ok (.iload 5, 2) := by decide +kernel
theorem dX4_read_57 : decode cX4_read 57 = .ok (.iconst 3, 1) := by decide +kernel
theorem dX4_read_58 : decode cX4_read 58 = .ok (.ishl, 1) := by decide +kernel
theorem dX4_read_59 : decode cX4_read 59 = .ok (.aload_n 1, 1) := by decide +kernel
theorem dX4_read_60 : decode cX4_read 60 = .ok (.iload_n 2, 1) := by decide +kernel
theorem dX4_read_61 : decode cX4_read 61 = .ok (.iload_n 3, 1) := by decide +kernel
theorem dX4_read_62 : decode cX4_read 62 = .ok (.iload 6, 2) := by decide +kernel
theorem dX4_read_64 : decode cX4_read 64 = .ok (.iadd, 1) := by decide +kernel
theorem dX4_read_65 : decode cX4_read 65 = .ok (.iconst 1, 1) := by decide +kernel
theorem dX4_read_66 : decode cX4_read 66 = .ok (.isub, 1) := by decide +kernel
theorem dX4_read_67 : decode cX4_read 67 = .ok (.invokevirtual 43, 3) := by decide +kernel
theorem dX4_read_70 : decode cX4_read 70 = .ok (.iconst 1, 1) := by decide +kernel
theorem dX4_read_71 : decode cX4_read 71 = .ok (.iadd, 1) := by decide +kernel
theorem dX4_read_72 : decode cX4_read 72 = .ok (.ior, 1) := by decide +kernel
theorem dX4_read_73 : decode cX4_read 73 = .ok (.istore 5, 2) := by decide +kernel
theorem dX4_read_75 : decode cX4_read 75 = .ok (.aload_n 0, 1) := by decide +kernel
theorem dX4_read_76 : decode cX4_read 76 = .ok (.getfield 9, 3) := by decide +kernel
theorem dX4_read_79 : decode cX4_read 79 = .ok (.iload_n 3, 1) := by decide +kernel
theorem dX4_read_80 : decode cX4_read 80 = .ok (.iload 6, 2) := by decide +kernel
theorem dX4_read_82 : decode cX4_read 82 = .ok (.invokestatic 47, 3) := by decide +kernel
theorem dX4_read_85 : decode cX4_read 85 = .ok (.iload 5, 2) := by decide +kernel
theorem dX4_read_87 : decode cX4_read 87 = .ok (.iastore, 1) := by decide +kernel
theorem dX4_read_88 : decode cX4_read 88 = .ok (.aload_n 0, 1) := by decide +kernel
theorem dX4_read_89 : decode cX4_read 89 = .ok (.getfield 15, 3) := by decide +kernel
theorem dX4_read_92 : decode cX4_read 92 = .ok (.iload_n 3, 1) := by decide +kernel
theorem dX4_read_93 : decode cX4_read 93 = .ok (.iload 6, 2) := by decide +kernel
theorem dX4_read_95 : decode cX4_read 95 = .ok (.invokestatic 47, 3) := by decide +kernel
theorem dX4_read_98 : decode cX4_read 98 = .ok (.aload_n 1, 1) := by decide +kernel
theorem dX4_read_99 : decode cX4_read 99 = .ok (.iload 5, 2) := by decide +kernel
theorem dX4_read_101 : decode cX4_read 101 = .ok (.invokevirtual 50, 3) := by decide +kernel
theorem dX4_read_104 : decode cX4_read 104 = .ok (.iastore, 1) := by decide +kernel
theorem dX4_read_105 : decode cX4_read 105 = .ok (.iinc 6 1, 3) := by decide +kernel
theorem dX4_read_108 : decode cX4_read 108 = .ok (.goto (-60), 3) := by decide +kernel
theorem dX4_read_111 : decode cX4_read 111 = .ok (.iinc 3 1, 3) := by decide +kernel
theorem dX4_read_114 : decode cX4_read 114 = .ok (.goto (-87), 3) := by decide +kernel
theorem dX4_read_117 : decode cX4_read 117 = .ok (.return_, 1) := by decide +kernel
theorem dX4_mostLetters_0 : decode cX4_mostLetters 0 = .ok (.iconst 4, 1) := by decide +kernel
theorem dX4_mostLetters_1 : decode cX4_mostLetters 1 = .ok (.aload_n 0, 1) := by decide +kernel
theorem dX4_mostLetters_2 : decode cX4_mostLetters 2 = .ok (.getfield 26, 3) := by decide +kernel
theorem dX4_mostLetters_5 : decode cX4_mostLetters 5 = .ok (.iload_n 1, 1) := by decide +kernel
theorem dX4_mostLetters_6 : decode cX4_mostLetters 6 = .ok (.isub, 1) := by decide +kernel
theorem dX4_mostLetters_7 : decode cX4_mostLetters 7 = .ok (.invokestatic 53, 3) := by decide +kernel
theorem dX4_mostLetters_10 : decode cX4_mostLetters 10 = .ok (.ireturn, 1) := by decide +kernel
theorem dX4_index_0 : decode cX4_index 0 = .ok (.iload_n 0, 1) := by decide +kernel
theorem dX4_index_1 : decode cX4_index 1 = .ok (.iconst 4, 1) := by decide +kernel
theorem dX4_index_2 : decode cX4_index 2 = .ok (.imul, 1) := by decide +kernel
theorem dX4_index_3 : decode cX4_index 3 = .ok (.iload_n 1, 1) := by decide +kernel
theorem dX4_index_4 : decode cX4_index 4 = .ok (.iadd, 1) := by decide +kernel
theorem dX4_index_5 : decode cX4_index 5 = .ok (.iconst 1, 1) := by decide +kernel
theorem dX4_index_6 : decode cX4_index 6 = .ok (.isub, 1) := by decide +kernel
theorem dX4_index_7 : decode cX4_index 7 = .ok (.ireturn, 1) := by decide +kernel
set_option maxRecDepth 20000 in
theorem ggX4_textAt_X4_index : GoodIn wsX4_textAt wsX4_index := goodIn_r _ [5] (by decide +kernel) (by decide +kernel)
set_option maxRecDepth 20000 in
theorem gX4_textAt_X4_index : GoodIn wsX4_textAt (va_wsS RX4 47 yX4_index wsX4_index) := goodIn_app (goodIn_of _ (by decide +kernel)) ggX4_textAt_X4_index
theorem dX4_textAt_0 : decode cX4_textAt 0 = .ok (.aload_n 0, 1) := by decide +kernel
theorem dX4_textAt_1 : decode cX4_textAt 1 = .ok (.getfield 9, 3) := by decide +kernel
theorem dX4_textAt_4 : decode cX4_textAt 4 = .ok (.iload_n 1, 1) := by decide +kernel
theorem dX4_textAt_5 : decode cX4_textAt 5 = .ok (.iload_n 2, 1) := by decide +kernel
theorem dX4_textAt_6 : decode cX4_textAt 6 = .ok (.invokestatic 47, 3) := by decide +kernel
theorem dX4_textAt_9 : decode cX4_textAt 9 = .ok (.iaload, 1) := by decide +kernel
theorem dX4_textAt_10 : decode cX4_textAt 10 = .ok (.ireturn, 1) := by decide +kernel
set_option maxRecDepth 20000 in
theorem ggX4_pieceAt_X4_index : GoodIn wsX4_pieceAt wsX4_index := goodIn_r _ [5] (by decide +kernel) (by decide +kernel)
set_option maxRecDepth 20000 in
theorem gX4_pieceAt_X4_index : GoodIn wsX4_pieceAt (va_wsS RX4 47 yX4_index wsX4_index) := goodIn_app (goodIn_of _ (by decide +kernel)) ggX4_pieceAt_X4_index
theorem dX4_pieceAt_0 : decode cX4_pieceAt 0 = .ok (.aload_n 0, 1) := by decide +kernel
theorem dX4_pieceAt_1 : decode cX4_pieceAt 1 = .ok (.getfield 15, 3) := by decide +kernel
theorem dX4_pieceAt_4 : decode cX4_pieceAt 4 = .ok (.iload_n 1, 1) := by decide +kernel
theorem dX4_pieceAt_5 : decode cX4_pieceAt 5 = .ok (.iload_n 2, 1) := by decide +kernel
theorem dX4_pieceAt_6 : decode cX4_pieceAt 6 = .ok (.invokestatic 47, 3) := by decide +kernel
theorem dX4_pieceAt_9 : decode cX4_pieceAt 9 = .ok (.iaload, 1) := by decide +kernel
theorem dX4_pieceAt_10 : decode cX4_pieceAt 10 = .ok (.ireturn, 1) := by decide +kernel
set_option maxRecDepth 20000 in
theorem ggX4_weightAt_X4_pieceAt : GoodIn wsX4_weightAt wsX4_pieceAt := goodIn_r _ [6, 7, 8, 9, 5, 10, 11, 12, 13, 14] (by decide +kernel) (by decide +kernel)
set_option maxRecDepth 20000 in
theorem gX4_weightAt_X4_pieceAt : GoodIn wsX4_weightAt (wsV RX4 58 RX4 yX4_pieceAt wsX4_pieceAt) := goodIn_app (goodIn_of _ (by decide +kernel)) ggX4_weightAt_X4_pieceAt
theorem dX4_weightAt_0 : decode cX4_weightAt 0 = .ok (.aload_n 0, 1) := by decide +kernel
theorem dX4_weightAt_1 : decode cX4_weightAt 1 = .ok (.iload_n 1, 1) := by decide +kernel
theorem dX4_weightAt_2 : decode cX4_weightAt 2 = .ok (.iload_n 2, 1) := by decide +kernel
theorem dX4_weightAt_3 : decode cX4_weightAt 3 = .ok (.invokevirtual 58, 3) := by decide +kernel
theorem dX4_weightAt_6 : decode cX4_weightAt 6 = .ok (.istore 4, 2) := by decide +kernel
theorem dX4_weightAt_8 : decode cX4_weightAt 8 = .ok (.iload 4, 2) := by decide +kernel
theorem dX4_weightAt_10 : decode cX4_weightAt 10 = .ok (.iconst (-1), 1) := by decide +kernel
theorem dX4_weightAt_11 : decode cX4_weightAt 11 = .ok (.if_icmp .eq 9, 3) := by decide +kernel
theorem dX4_weightAt_14 : decode cX4_weightAt 14 = .ok (.iload 4, 2) := by decide +kernel
theorem dX4_weightAt_16 : decode cX4_weightAt 16 = .ok (.iload_n 3, 1) := by decide +kernel
theorem dX4_weightAt_17 : decode cX4_weightAt 17 = .ok (.if_icmp .ne 14, 3) := by decide +kernel
theorem dX4_weightAt_20 : decode cX4_weightAt 20 = .ok (.iload_n 2, 1) := by decide +kernel
theorem dX4_weightAt_21 : decode cX4_weightAt 21 = .ok (.iconst 1, 1) := by decide +kernel
theorem dX4_weightAt_22 : decode cX4_weightAt 22 = .ok (.if_icmp .ne 7, 3) := by decide +kernel
theorem dX4_weightAt_25 : decode cX4_weightAt 25 = .ok (.iconst 1, 1) := by decide +kernel
theorem dX4_weightAt_26 : decode cX4_weightAt 26 = .ok (.goto 4, 3) := by decide +kernel
theorem dX4_weightAt_29 : decode cX4_weightAt 29 = .ok (.iconst 0, 1) := by decide +kernel
theorem dX4_weightAt_30 : decode cX4_weightAt 30 = .ok (.ireturn, 1) := by decide +kernel
theorem dX4_weightAt_31 : decode cX4_weightAt 31 = .ok (.aload_n 0, 1) := by decide +kernel
theorem dX4_weightAt_32 : decode cX4_weightAt 32 = .ok (.getfield 18, 3) := by decide +kernel
theorem dX4_weightAt_35 : decode cX4_weightAt 35 = .ok (.iload 4, 2) := by decide +kernel
theorem dX4_weightAt_37 : decode cX4_weightAt 37 = .ok (.iaload, 1) := by decide +kernel
theorem dX4_weightAt_38 : decode cX4_weightAt 38 = .ok (.ireturn, 1) := by decide +kernel
theorem dX5_init_0 : decode cX5_init 0 = .ok (.aload_n 0, 1) := by decide +kernel
theorem dX5_init_1 : decode cX5_init 1 = .ok (.invokespecial 3, 3) := by decide +kernel
theorem dX5_init_4 : decode cX5_init 4 = .ok (.aload_n 0, 1) := by decide +kernel
theorem dX5_init_5 : decode cX5_init 5 = .ok (.bipush 88, 2) := by decide +kernel
theorem dX5_init_7 : decode cX5_init 7 = .ok (.newarray .int, 2) := by decide +kernel
theorem dX5_init_9 : decode cX5_init 9 = .ok (.putfield 11, 3) := by decide +kernel
theorem dX5_init_12 : decode cX5_init 12 = .ok (.aload_n 0, 1) := by decide +kernel
theorem dX5_init_13 : decode cX5_init 13 = .ok (.bipush 88, 2) := by decide +kernel
theorem dX5_init_15 : decode cX5_init 15 = .ok (.newarray .int, 2) := by decide +kernel
theorem dX5_init_17 : decode cX5_init 17 = .ok (.putfield 15, 3) := by decide +kernel
theorem dX5_init_20 : decode cX5_init 20 = .ok (.aload_n 0, 1) := by decide +kernel
theorem dX5_init_21 : decode cX5_init 21 = .ok (.bipush 88, 2) := by decide +kernel
theorem dX5_init_23 : decode cX5_init 23 = .ok (.newarray .int, 2) := by decide +kernel
theorem dX5_init_25 : decode cX5_init 25 = .ok (.putfield 18, 3) := by decide +kernel
theorem dX5_init_28 : decode cX5_init 28 = .ok (.aload_n 0, 1) := by decide +kernel
theorem dX5_init_29 : decode cX5_init 29 = .ok (.bipush 88, 2) := by decide +kernel
theorem dX5_init_31 : decode cX5_init 31 = .ok (.newarray .int, 2) := by decide +kernel
theorem dX5_init_33 : decode cX5_init 33 = .ok (.putfield 21, 3) := by decide +kernel
theorem dX5_init_36 : decode cX5_init 36 = .ok (.return_, 1) := by decide +kernel
theorem dX5_add_0 : decode cX5_add 0 = .ok (.iconst 0, 1) := by decide +kernel
theorem dX5_add_1 : decode cX5_add 1 = .ok (.istore 5, 2) := by decide +kernel
theorem dX5_add_3 : decode cX5_add 3 = .ok (.iload 5, 2) := by decide +kernel
theorem dX5_add_5 : decode cX5_add 5 = .ok (.aload_n 0, 1) := by decide +kernel
theorem dX5_add_6 : decode cX5_add 6 = .ok (.getfield 24, 3) := by decide +kernel
theorem dX5_add_9 : decode cX5_add 9 = .ok (.if_icmp .ge 33, 3) := by decide +kernel
theorem dX5_add_12 : decode cX5_add 12 = .ok (.aload_n 0, 1) := by decide +kernel
theorem dX5_add_13 : decode cX5_add 13 = .ok (.getfield 11, 3) := by decide +kernel
theorem dX5_add_16 : decode cX5_add 16 = .ok (.iload 5, 2) := by decide +kernel
theorem dX5_add_18 : decode cX5_add 18 = .ok (.iaload, 1) := by decide +kernel
theorem dX5_add_19 : decode cX5_add 19 = .ok (.iload_n 1, 1) := by decide +kernel
theorem dX5_add_20 : decode cX5_add 20 = .ok (.if_icmp .ne 16, 3) := by decide +kernel
theorem dX5_add_23 : decode cX5_add 23 = .ok (.aload_n 0, 1) := by decide +kernel
theorem dX5_add_24 : decode cX5_add 24 = .ok (.getfield 21, 3) := by decide +kernel
theorem dX5_add_27 : decode cX5_add 27 = .ok (.iload 5, 2) := by decide +kernel
theorem dX5_add_29 : decode cX5_add 29 = .ok (.dup2, 1) := by decide +kernel
theorem dX5_add_30 : decode cX5_add 30 = .ok (.iaload, 1) := by decide +kernel
theorem dX5_add_31 : decode cX5_add 31 = .ok (.iload 4, 2) := by decide +kernel
theorem dX5_add_33 : decode cX5_add 33 = .ok (.iadd, 1) := by decide +kernel
theorem dX5_add_34 : decode cX5_add 34 = .ok (.iastore, 1) := by decide +kernel
theorem dX5_add_35 : decode cX5_add 35 = .ok (.return_, 1) := by decide +kernel
theorem dX5_add_36 : decode cX5_add 36 = .ok (.iinc 5 1, 3) := by decide +kernel
theorem dX5_add_39 : decode cX5_add 39 = .ok (.goto (-36), 3) := by decide +kernel
theorem dX5_add_42 : decode cX5_add 42 = .ok (.aload_n 0, 1) := by decide +kernel
theorem dX5_add_43 : decode cX5_add 43 = .ok (.getfield 24, 3) := by decide +kernel
theorem dX5_add_46 : decode cX5_add 46 = .ok (.bipush 88, 2) := by decide +kernel
theorem dX5_add_48 : decode cX5_add 48 = .ok (.if_icmp .lt 4, 3) := by decide +kernel
theorem dX5_add_51 : decode cX5_add 51 = .ok (.return_, 1) := by decide +kernel
theorem dX5_add_52 : decode cX5_add 52 = .ok (.aload_n 0, 1) := by decide +kernel
theorem dX5_add_53 : decode cX5_add 53 = .ok (.getfield 11, 3) := by decide +kernel
theorem dX5_add_56 : decode cX5_add 56 = .ok (.aload_n 0, 1) := by decide +kernel
theorem dX5_add_57 : decode cX5_add 57 = .ok (.getfield 24, 3) := by decide +kernel
theorem dX5_add_60 : decode cX5_add 60 = .ok (.iload_n 1, 1) := by decide +kernel
theorem dX5_add_61 : decode cX5_add 61 = .ok (.iastore, 1) := by decide +kernel
theorem dX5_add_62 : decode cX5_add 62 = .ok (.aload_n 0, 1) := by decide +kernel
theorem dX5_add_63 : decode cX5_add 63 = .ok (.getfield 15, 3) := by decide +kernel
theorem dX5_add_66 : decode cX5_add 66 = .ok (.aload_n 0, 1) := by decide +kernel
theorem dX5_add_67 : decode cX5_add 67 = .ok (.getfield 24, 3) := by decide +kernel
theorem dX5_add_70 : decode cX5_add 70 = .ok (.iload_n 2, 1) := by decide +kernel
theorem dX5_add_71 : decode cX5_add 71 = .ok (.iastore, 1) := by decide +kernel
theorem dX5_add_72 : decode cX5_add 72 = .ok (.aload_n 0, 1) := by decide +kernel
theorem dX5_add_73 : decode cX5_add 73 = .ok (.getfield 18, 3) := by decide +kernel
theorem dX5_add_76 : decode cX5_add 76 = .ok (.aload_n 0, 1) := by decide +kernel
theorem dX5_add_77 : decode cX5_add 77 = .ok (.getfield 24, 3) := by decide +kernel
theorem dX5_add_80 : decode cX5_add 80 = .ok (.iload_n 3, 1) := by decide +kernel
theorem dX5_add_81 : decode cX5_add 81 = .ok (.iastore, 1) := by decide +kernel
theorem dX5_add_82 : decode cX5_add 82 = .ok (.aload_n 0, 1) := by decide +kernel
theorem dX5_add_83 : decode cX5_add 83 = .ok (.getfield 21, 3) := by decide +kernel
theorem dX5_add_86 : decode cX5_add 86 = .ok (.aload_n 0, 1) := by decide +kernel
theorem dX5_add_87 : decode cX5_add 87 = .ok (.getfield 24, 3) := by decide +kernel
theorem dX5_add_90 : decode cX5_add 90 = .ok (.iload 4, 2) := by decide +kernel
theorem dX5_add_92 : decode cX5_add 92 = .ok (.iastore, 1) := by decide +kernel
theorem dX5_add_93 : decode cX5_add 93 = .ok (.aload_n 0, 1) := by decide +kernel
theorem dX5_add_94 : decode cX5_add 94 = .ok (.dup, 1) := by decide +kernel
theorem dX5_add_95 : decode cX5_add 95 = .ok (.getfield 24, 3) := by decide +kernel
end
section
theorem dX5_add_98 : decode cX5_add 98 = .ok (.iconst 1, 1) := by decide +kernel
theorem dX5_add_99 : decode cX5_add 99 = .ok (.iadd, 1) := by decide +kernel
theorem dX5_add_100 : decode cX5_add 100 = .ok (.putfield 24, 3) := by decide +kernel
theorem dX5_add_103 : decode cX5_add 103 = .ok (.return_, 1) := by decide +kernel
theorem dX5_mostFrequent_0 : decode cX5_mostFrequent 0 = .ok (.iconst (-1), 1) := by decide +kernel
theorem dX5_mostFrequent_1 : decode cX5_mostFrequent 1 = .ok (.istore_n 1, 1) := by decide +kernel
theorem dX5_mostFrequent_2 : decode cX5_mostFrequent 2 = .ok (.iconst 0, 1) := by decide +kernel
theorem dX5_mostFrequent_3 : decode cX5_mostFrequent 3 = .ok (.istore_n 2, 1) := by decide +kernel
theorem dX5_mostFrequent_4 : decode cX5_mostFrequent 4 = .ok (.iload_n 2, 1) := by decide +kernel
theorem dX5_mostFrequent_5 : decode cX5_mostFrequent 5 = .ok (.aload_n 0, 1) := by decide +kernel
theorem dX5_mostFrequent_6 : decode cX5_mostFrequent 6 = .ok (.getfield 24, 3) := by decide +kernel
theorem dX5_mostFrequent_9 : decode cX5_mostFrequent 9 = .ok (.if_icmp .ge 60, 3) := by decide +kernel
theorem dX5_mostFrequent_12 : decode cX5_mostFrequent 12 = .ok (.iload_n 1, 1) := by decide +kernel
theorem dX5_mostFrequent_13 : decode cX5_mostFrequent 13 = .ok (.ifCond .lt 48, 3) := by decide +kernel
theorem dX5_mostFrequent_16 : decode cX5_mostFrequent 16 = .ok (.aload_n 0, 1) := by decide +kernel
theorem dX5_mostFrequent_17 : decode cX5_mostFrequent 17 = .ok (.getfield 21, 3) := by decide +kernel
theorem dX5_mostFrequent_20 : decode cX5_mostFrequent 20 = .ok (.iload_n 2, 1) := by decide +kernel
theorem dX5_mostFrequent_21 : decode cX5_mostFrequent 21 = .ok (.iaload, 1) := by decide +kernel
theorem dX5_mostFrequent_22 : decode cX5_mostFrequent 22 = .ok (.aload_n 0, 1) := by decide +kernel
theorem dX5_mostFrequent_23 : decode cX5_mostFrequent 23 = .ok (.getfield 21, 3) := by decide +kernel
theorem dX5_mostFrequent_26 : decode cX5_mostFrequent 26 = .ok (.iload_n 1, 1) := by decide +kernel
theorem dX5_mostFrequent_27 : decode cX5_mostFrequent 27 = .ok (.iaload, 1) := by decide +kernel
theorem dX5_mostFrequent_28 : decode cX5_mostFrequent 28 = .ok (.if_icmp .gt 33, 3) := by decide +kernel
theorem dX5_mostFrequent_31 : decode cX5_mostFrequent 31 = .ok (.aload_n 0, 1) := by decide +kernel
theorem dX5_mostFrequent_32 : decode cX5_mostFrequent 32 = .ok (.getfield 21, 3) := by decide +kernel
theorem dX5_mostFrequent_35 : decode cX5_mostFrequent 35 = .ok (.iload_n 2, 1) := by decide +kernel
theorem dX5_mostFrequent_36 : decode cX5_mostFrequent 36 = .ok (.iaload, 1) := by decide +kernel
theorem dX5_mostFrequent_37 : decode cX5_mostFrequent 37 = .ok (.aload_n 0, 1) := by decide +kernel
theorem dX5_mostFrequent_38 : decode cX5_mostFrequent 38 = .ok (.getfield 21, 3) := by decide +kernel
theorem dX5_mostFrequent_41 : decode cX5_mostFrequent 41 = .ok (.iload_n 1, 1) := by decide +kernel
theorem dX5_mostFrequent_42 : decode cX5_mostFrequent 42 = .ok (.iaload, 1) := by decide +kernel
theorem dX5_mostFrequent_43 : decode cX5_mostFrequent 43 = .ok (.if_icmp .ne 20, 3) := by decide +kernel
theorem dX5_mostFrequent_46 : decode cX5_mostFrequent 46 = .ok (.aload_n 0, 1) := by decide +kernel
theorem dX5_mostFrequent_47 : decode cX5_mostFrequent 47 = .ok (.getfield 11, 3) := by decide +kernel
theorem dX5_mostFrequent_50 : decode cX5_mostFrequent 50 = .ok (.iload_n 2, 1) := by decide +kernel
theorem dX5_mostFrequent_51 : decode cX5_mostFrequent 51 = .ok (.iaload, 1) := by decide +kernel
theorem dX5_mostFrequent_52 : decode cX5_mostFrequent 52 = .ok (.aload_n 0, 1) := by decide +kernel
theorem dX5_mostFrequent_53 : decode cX5_mostFrequent 53 = .ok (.getfield 11, 3) := by decide +kernel
theorem dX5_mostFrequent_56 : decode cX5_mostFrequent 56 = .ok (.iload_n 1, 1) := by decide +kernel
theorem dX5_mostFrequent_57 : decode cX5_mostFrequent 57 = .ok (.iaload, 1) := by decide +kernel
theorem dX5_mostFrequent_58 : decode cX5_mostFrequent 58 = .ok (.if_icmp .ge 5, 3) := by decide +kernel
theorem dX5_mostFrequent_61 : decode cX5_mostFrequent 61 = .ok (.iload_n 2, 1) := by decide +kernel
theorem dX5_mostFrequent_62 : decode cX5_mostFrequent 62 = .ok (.istore_n 1, 1) := by decide +kernel
theorem dX5_mostFrequent_63 : decode cX5_mostFrequent 63 = .ok (.iinc 2 1, 3) := by decide +kernel
theorem dX5_mostFrequent_66 : decode cX5_mostFrequent 66 = .ok (.goto (-62), 3) := by decide +kernel
theorem dX5_mostFrequent_69 : decode cX5_mostFrequent 69 = .ok (.iload_n 1, 1) := by decide +kernel
theorem dX5_mostFrequent_70 : decode cX5_mostFrequent 70 = .ok (.ireturn, 1) := by decide +kernel
theorem dX6_init_0 : decode cX6_init 0 = .ok (.aload_n 0, 1) := by decide +kernel
theorem dX6_init_1 : decode cX6_init 1 = .ok (.invokespecial 3, 3) := by decide +kernel
theorem dX6_init_4 : decode cX6_init 4 = .ok (.aload_n 0, 1) := by decide +kernel
theorem dX6_init_5 : decode cX6_init 5 = .ok (.bipush 16, 2) := by decide +kernel
theorem dX6_init_7 : decode cX6_init 7 = .ok (.newarray .int, 2) := by decide +kernel
theorem dX6_init_9 : decode cX6_init 9 = .ok (.putfield 9, 3) := by decide +kernel
theorem dX6_init_12 : decode cX6_init 12 = .ok (.return_, 1) := by decide +kernel
theorem dX6_append_0 : decode cX6_append 0 = .ok (.aload_n 0, 1) := by decide +kernel
theorem dX6_append_1 : decode cX6_append 1 = .ok (.getfield 15, 3) := by decide +kernel
theorem dX6_append_4 : decode cX6_append 4 = .ok (.bipush 16, 2) := by decide +kernel
theorem dX6_append_6 : decode cX6_append 6 = .ok (.if_icmp .lt 4, 3) := by decide +kernel
theorem dX6_append_9 : decode cX6_append 9 = .ok (.return_, 1) := by decide +kernel
theorem dX6_append_10 : decode cX6_append 10 = .ok (.aload_n 0, 1) := by decide +kernel
theorem dX6_append_11 : decode cX6_append 11 = .ok (.getfield 9, 3) := by decide +kernel
theorem dX6_append_14 : decode cX6_append 14 = .ok (.aload_n 0, 1) := by decide +kernel
theorem dX6_append_15 : decode cX6_append 15 = .ok (.getfield 15, 3) := by decide +kernel
theorem dX6_append_18 : decode cX6_append 18 = .ok (.iload_n 1, 1) := by decide +kernel
theorem dX6_append_19 : decode cX6_append 19 = .ok (.iastore, 1) := by decide +kernel
theorem dX6_append_20 : decode cX6_append 20 = .ok (.aload_n 0, 1) := by decide +kernel
theorem dX6_append_21 : decode cX6_append 21 = .ok (.dup, 1) := by decide +kernel
theorem dX6_append_22 : decode cX6_append 22 = .ok (.getfield 15, 3) := by decide +kernel
theorem dX6_append_25 : decode cX6_append 25 = .ok (.iconst 1, 1) := by decide +kernel
theorem dX6_append_26 : decode cX6_append 26 = .ok (.iadd, 1) := by decide +kernel
theorem dX6_append_27 : decode cX6_append 27 = .ok (.putfield 15, 3) := by decide +kernel
theorem dX6_append_30 : decode cX6_append 30 = .ok (.return_, 1) := by decide +kernel
theorem dX6_letterAt_0 : decode cX6_letterAt 0 = .ok (.aload_n 0, 1) := by decide +kernel
theorem dX6_letterAt_1 : decode cX6_letterAt 1 = .ok (.getfield 9, 3) := by decide +kernel
theorem dX6_letterAt_4 : decode cX6_letterAt 4 = .ok (.iload_n 1, 1) := by decide +kernel
theorem dX6_letterAt_5 : decode cX6_letterAt 5 = .ok (.iaload, 1) := by decide +kernel
theorem dX6_letterAt_6 : decode cX6_letterAt 6 = .ok (.bipush 97, 2) := by decide +kernel
theorem dX6_letterAt_8 : decode cX6_letterAt 8 = .ok (.isub, 1) := by decide +kernel
theorem dX6_letterAt_9 : decode cX6_letterAt 9 = .ok (.ireturn, 1) := by decide +kernel
set_option maxRecDepth 20000 in
theorem ggX6_firstNoLetter_X6_letterAt : GoodIn wsX6_firstNoLetter wsX6_letterAt := goodIn_r _ [6, 7, 8, 9] (by decide +kernel) (by decide +kernel)
set_option maxRecDepth 20000 in
theorem gX6_firstNoLetter_X6_letterAt : GoodIn wsX6_firstNoLetter (wsV RX6 19 RX6 yX6_letterAt wsX6_letterAt) := goodIn_app (goodIn_of _ (by decide +kernel)) ggX6_firstNoLetter_X6_letterAt
theorem dX6_firstNoLetter_0 : decode cX6_firstNoLetter 0 = .ok (.iconst 0, 1) := by decide +kernel
theorem dX6_firstNoLetter_1 : decode cX6_firstNoLetter 1 = .ok (.istore_n 1, 1) := by decide +kernel
theorem dX6_firstNoLetter_2 : decode cX6_firstNoLetter 2 = .ok (.iload_n 1, 1) := by decide +kernel
theorem dX6_firstNoLetter_3 : decode cX6_firstNoLetter 3 = .ok (.aload_n 0, 1) := by decide +kernel
theorem dX6_firstNoLetter_4 : decode cX6_firstNoLetter 4 = .ok (.getfield 15, 3) := by decide +kernel
theorem dX6_firstNoLetter_7 : decode cX6_firstNoLetter 7 = .ok (.if_icmp .ge 27, 3) := by decide +kernel
theorem dX6_firstNoLetter_10 : decode cX6_firstNoLetter 10 = .ok (.aload_n 0, 1) := by decide +kernel
theorem dX6_firstNoLetter_11 : decode cX6_firstNoLetter 11 = .ok (.iload_n 1, 1) := by decide +kernel
theorem dX6_firstNoLetter_12 : decode cX6_firstNoLetter 12 = .ok (.invokevirtual 19, 3) := by decide +kernel
theorem dX6_firstNoLetter_15 : decode cX6_firstNoLetter 15 = .ok (.ifCond .lt 19, 3) := by decide +kernel
theorem dX6_firstNoLetter_18 : decode cX6_firstNoLetter 18 = .ok (.aload_n 0, 1) := by decide +kernel
theorem dX6_firstNoLetter_19 : decode cX6_firstNoLetter 19 = .ok (.iload_n 1, 1) := by decide +kernel
theorem dX6_firstNoLetter_20 : decode cX6_firstNoLetter 20 = .ok (.invokevirtual 19, 3) := by decide +kernel
theorem dX6_firstNoLetter_23 : decode cX6_firstNoLetter 23 = .ok (.bipush 6, 2) := by decide +kernel
theorem dX6_firstNoLetter_25 : decode cX6_firstNoLetter 25 = .ok (.if_icmp .ge 9, 3) := by decide +kernel
theorem dX6_firstNoLetter_28 : decode cX6_firstNoLetter 28 = .ok (.iinc 1 1, 3) := by decide +kernel
theorem dX6_firstNoLetter_31 : decode cX6_firstNoLetter 31 = .ok (.goto (-29), 3) := by decide +kernel
theorem dX6_firstNoLetter_34 : decode cX6_firstNoLetter 34 = .ok (.iload_n 1, 1) := by decide +kernel
theorem dX6_firstNoLetter_35 : decode cX6_firstNoLetter 35 = .ok (.ireturn, 1) := by decide +kernel
set_option maxRecDepth 20000 in
theorem ggX6_holdsLetters_X6_firstNoLetter : GoodIn wsX6_holdsLetters wsX6_firstNoLetter := goodIn_r _ [6, 1, 7, 8, 9, 5, 10, 11, 12, 13] (by decide +kernel) (by decide +kernel)
set_option maxRecDepth 20000 in
theorem gX6_holdsLetters_X6_firstNoLetter : GoodIn wsX6_holdsLetters (wsV RX6 23 RX6 yX6_firstNoLetter wsX6_firstNoLetter) := goodIn_app (goodIn_of _ (by decide +kernel)) ggX6_holdsLetters_X6_firstNoLetter
theorem dX6_holdsLetters_0 : decode cX6_holdsLetters 0 = .ok (.aload_n 0, 1) := by decide +kernel
theorem dX6_holdsLetters_1 : decode cX6_holdsLetters 1 = .ok (.getfield 15, 3) := by decide +kernel
theorem dX6_holdsLetters_4 : decode cX6_holdsLetters 4 = .ok (.iconst 1, 1) := by decide +kernel
theorem dX6_holdsLetters_5 : decode cX6_holdsLetters 5 = .ok (.if_icmp .lt 26, 3) := by decide +kernel
theorem dX6_holdsLetters_8 : decode cX6_holdsLetters 8 = .ok (.aload_n 0, 1) := by decide +kernel
theorem dX6_holdsLetters_9 : decode cX6_holdsLetters 9 = .ok (.getfield 15, 3) := by decide +kernel
theorem dX6_holdsLetters_12 : decode cX6_holdsLetters 12 = .ok (.iload_n 1, 1) := by decide +kernel
theorem dX6_holdsLetters_13 : decode cX6_holdsLetters 13 = .ok (.if_icmp .gt 18, 3) := by decide +kernel
theorem dX6_holdsLetters_16 : decode cX6_holdsLetters 16 = .ok (.aload_n 0, 1) := by decide +kernel
theorem dX6_holdsLetters_17 : decode cX6_holdsLetters 17 = .ok (.invokevirtual 23, 3) := by decide +kernel
theorem dX6_holdsLetters_20 : decode cX6_holdsLetters 20 = .ok (.aload_n 0, 1) := by decide +kernel
theorem dX6_holdsLetters_21 : decode cX6_holdsLetters 21 = .ok (.getfield 15, 3) := by decide +kernel
theorem dX6_holdsLetters_24 : decode cX6_holdsLetters 24 = .ok (.if_icmp .ne 7, 3) := by decide +kernel
theorem dX6_holdsLetters_27 : decode cX6_holdsLetters 27 = .ok (.iconst 1, 1) := by decide +kernel
theorem dX6_holdsLetters_28 : decode cX6_holdsLetters 28 = .ok (.goto 4, 3) := by decide +kernel
theorem dX6_holdsLetters_31 : decode cX6_holdsLetters 31 = .ok (.iconst 0, 1) := by decide +kernel
theorem dX6_holdsLetters_32 : decode cX6_holdsLetters 32 = .ok (.ireturn, 1) := by decide +kernel
set_option maxRecDepth 20000 in
theorem ggX6_text_X6_letterAt : GoodIn wsX6_text wsX6_letterAt := goodIn_r _ [6, 7, 8, 9] (by decide +kernel) (by decide +kernel)
set_option maxRecDepth 20000 in
theorem gX6_text_X6_letterAt : GoodIn wsX6_text (wsV RX6 19 RX6 yX6_letterAt wsX6_letterAt) := goodIn_app (goodIn_of _ (by decide +kernel)) ggX6_text_X6_letterAt
theorem dX6_text_0 : decode cX6_text 0 = .ok (.iconst 0, 1) := by decide +kernel
theorem dX6_text_1 : decode cX6_text 1 = .ok (.istore_n 1, 1) := by decide +kernel
theorem dX6_text_2 : decode cX6_text 2 = .ok (.iconst 0, 1) := by decide +kernel
theorem dX6_text_3 : decode cX6_text 3 = .ok (.istore_n 2, 1) := by decide +kernel
theorem dX6_text_4 : decode cX6_text 4 = .ok (.iload_n 2, 1) := by decide +kernel
theorem dX6_text_5 : decode cX6_text 5 = .ok (.aload_n 0, 1) := by decide +kernel
theorem dX6_text_6 : decode cX6_text 6 = .ok (.getfield 15, 3) := by decide +kernel
theorem dX6_text_9 : decode cX6_text 9 = .ok (.if_icmp .ge 21, 3) := by decide +kernel
theorem dX6_text_12 : decode cX6_text 12 = .ok (.iload_n 1, 1) := by decide +kernel
theorem dX6_text_13 : decode cX6_text 13 = .ok (.iconst 3, 1) := by decide +kernel
theorem dX6_text_14 : decode cX6_text 14 = .ok (.ishl, 1) := by decide +kernel
theorem dX6_text_15 : decode cX6_text 15 = .ok (.aload_n 0, 1) := by decide +kernel
theorem dX6_text_16 : decode cX6_text 16 = .ok (.iload_n 2, 1) := by decide +kernel
theorem dX6_text_17 : decode cX6_text 17 = .ok (.invokevirtual 19, 3) := by decide +kernel
theorem dX6_text_20 : decode cX6_text 20 = .ok (.iconst 1, 1) := by decide +kernel
theorem dX6_text_21 : decode cX6_text 21 = .ok (.iadd, 1) := by decide +kernel
theorem dX6_text_22 : decode cX6_text 22 = .ok (.ior, 1) := by decide +kernel
theorem dX6_text_23 : decode cX6_text 23 = .ok (.istore_n 1, 1) := by decide +kernel
theorem dX6_text_24 : decode cX6_text 24 = .ok (.iinc 2 1, 3) := by decide +kernel
theorem dX6_text_27 : decode cX6_text 27 = .ok (.goto (-23), 3) := by decide +kernel
theorem dX6_text_30 : decode cX6_text 30 = .ok (.iload_n 1, 1) := by decide +kernel
theorem dX6_text_31 : decode cX6_text 31 = .ok (.ireturn, 1) := by decide +kernel
set_option maxRecDepth 20000 in
theorem ggX7_init_X2_init : GoodIn wsX7_init wsX2_init := goodIn_r _ [40, 41, 2, 3, 36, 42, 43, 44, 45, 46, 47, 87, 88, 89, 90, 91, 92, 93, 94] (by decide +kernel) (by decide +kernel)
set_option maxRecDepth 20000 in
theorem gX7_init_X2_init_n9 : GoodIn wsX7_init (wsX2_init) := ggX7_init_X2_init
set_option maxRecDepth 20000 in
theorem ggX7_init_X3_init : GoodIn wsX7_init wsX3_init := goodIn_r _ [50, 51, 2, 3, 52, 53, 5, 6, 39, 40, 41, 36, 42, 43, 44, 45, 46, 47, 107, 108, 87, 88, 89, 90, 91, 92, 93, 94] (by decide +kernel) (by decide +kernel)
set_option maxRecDepth 20000 in
theorem gX7_init_X3_init : GoodIn wsX7_init (wsX3_init) := ggX7_init_X3_init
set_option maxRecDepth 20000 in
theorem ggX7_init_X6_init : GoodIn wsX7_init wsX6_init := goodIn_r _ [55, 56, 2, 3, 36, 57, 109, 110] (by decide +kernel) (by decide +kernel)
set_option maxRecDepth 20000 in
theorem gX7_init_X6_init_n36 : GoodIn wsX7_init (wsX6_init) := ggX7_init_X6_init
set_option maxRecDepth 20000 in
theorem ggX7_init_X4_init : GoodIn wsX7_init wsX4_init := goodIn_r _ [59, 60, 2, 3, 36, 61, 62, 63, 111, 112, 113, 114] (by decide +kernel) (by decide +kernel)
set_option maxRecDepth 20000 in
theorem gX7_init_X4_init_n43 : GoodIn wsX7_init (wsX4_init) := ggX7_init_X4_init
set_option maxRecDepth 20000 in
theorem ggX7_init_X1_init : GoodIn wsX7_init wsX1_init := goodIn_r _ [65, 66, 2, 3, 67, 68, 36, 69, 70, 71, 72, 73, 115, 116, 117, 118, 119, 120, 121, 122] (by decide +kernel) (by decide +kernel)
set_option maxRecDepth 20000 in
theorem gX7_init_X1_init_n50 : GoodIn wsX7_init (wsX1_init) := ggX7_init_X1_init
set_option maxRecDepth 20000 in
theorem ggX7_init_X0_init : GoodIn wsX7_init wsX0_init := goodIn_r _ [75, 76, 2, 3, 67, 77, 78, 36, 79, 123, 124, 125] (by decide +kernel) (by decide +kernel)
set_option maxRecDepth 20000 in
theorem gX7_init_X0_init_n57 : GoodIn wsX7_init (wsX0_init) := ggX7_init_X0_init
set_option maxRecDepth 20000 in
theorem ggX7_init_X5_init : GoodIn wsX7_init wsX5_init := goodIn_r _ [81, 82, 2, 3, 36, 83, 84, 85, 86, 126, 127, 128, 129, 130] (by decide +kernel) (by decide +kernel)
set_option maxRecDepth 20000 in
theorem gX7_init_X5_init_n64 : GoodIn wsX7_init (wsX5_init) := ggX7_init_X5_init
theorem dX7_init_0 : decode cX7_init 0 = .ok (.aload_n 0, 1) := by decide +kernel
theorem dX7_init_1 : decode cX7_init 1 = .ok (.invokespecial 1, 3) := by decide +kernel
theorem dX7_init_4 : decode cX7_init 4 = .ok (.aload_n 0, 1) := by decide +kernel
theorem dX7_init_5 : decode cX7_init 5 = .ok (.new 7, 3) := by decide +kernel
theorem dX7_init_8 : decode cX7_init 8 = .ok (.dup, 1) := by decide +kernel
theorem dX7_init_9 : decode cX7_init 9 = .ok (.invokespecial 9, 3) := by decide +kernel
theorem dX7_init_12 : decode cX7_init 12 = .ok (.putfield 10, 3) := by decide +kernel
theorem dX7_init_15 : decode cX7_init 15 = .ok (.aload_n 0, 1) := by decide +kernel
theorem dX7_init_16 : decode cX7_init 16 = .ok (.new 7, 3) := by decide +kernel
theorem dX7_init_19 : decode cX7_init 19 = .ok (.dup, 1) := by decide +kernel
theorem dX7_init_20 : decode cX7_init 20 = .ok (.invokespecial 9, 3) := by decide +kernel
theorem dX7_init_23 : decode cX7_init 23 = .ok (.putfield 16, 3) := by decide +kernel
theorem dX7_init_26 : decode cX7_init 26 = .ok (.aload_n 0, 1) := by decide +kernel
theorem dX7_init_27 : decode cX7_init 27 = .ok (.iconst 2, 1) := by decide +kernel
theorem dX7_init_28 : decode cX7_init 28 = .ok (.anewarray 7, 3) := by decide +kernel
theorem dX7_init_31 : decode cX7_init 31 = .ok (.putfield 19, 3) := by decide +kernel
theorem dX7_init_34 : decode cX7_init 34 = .ok (.aload_n 0, 1) := by decide +kernel
theorem dX7_init_35 : decode cX7_init 35 = .ok (.iconst 2, 1) := by decide +kernel
theorem dX7_init_36 : decode cX7_init 36 = .ok (.newarray .boolean, 2) := by decide +kernel
theorem dX7_init_38 : decode cX7_init 38 = .ok (.putfield 23, 3) := by decide +kernel
theorem dX7_init_41 : decode cX7_init 41 = .ok (.aload_n 0, 1) := by decide +kernel
theorem dX7_init_42 : decode cX7_init 42 = .ok (.new 27, 3) := by decide +kernel
theorem dX7_init_45 : decode cX7_init 45 = .ok (.dup, 1) := by decide +kernel
theorem dX7_init_46 : decode cX7_init 46 = .ok (.invokespecial 29, 3) := by decide +kernel
theorem dX7_init_49 : decode cX7_init 49 = .ok (.putfield 30, 3) := by decide +kernel
theorem dX7_init_52 : decode cX7_init 52 = .ok (.aload_n 0, 1) := by decide +kernel
theorem dX7_init_53 : decode cX7_init 53 = .ok (.new 34, 3) := by decide +kernel
theorem dX7_init_56 : decode cX7_init 56 = .ok (.dup, 1) := by decide +kernel
theorem dX7_init_57 : decode cX7_init 57 = .ok (.invokespecial 36, 3) := by decide +kernel
theorem dX7_init_60 : decode cX7_init 60 = .ok (.putfield 37, 3) := by decide +kernel
theorem dX7_init_63 : decode cX7_init 63 = .ok (.aload_n 0, 1) := by decide +kernel
theorem dX7_init_64 : decode cX7_init 64 = .ok (.new 41, 3) := by decide +kernel
theorem dX7_init_67 : decode cX7_init 67 = .ok (.dup, 1) := by decide +kernel
theorem dX7_init_68 : decode cX7_init 68 = .ok (.invokespecial 43, 3) := by decide +kernel
theorem dX7_init_71 : decode cX7_init 71 = .ok (.putfield 44, 3) := by decide +kernel
theorem dX7_init_74 : decode cX7_init 74 = .ok (.aload_n 0, 1) := by decide +kernel
theorem dX7_init_75 : decode cX7_init 75 = .ok (.new 48, 3) := by decide +kernel
theorem dX7_init_78 : decode cX7_init 78 = .ok (.dup, 1) := by decide +kernel
theorem dX7_init_79 : decode cX7_init 79 = .ok (.invokespecial 50, 3) := by decide +kernel
theorem dX7_init_82 : decode cX7_init 82 = .ok (.putfield 51, 3) := by decide +kernel
theorem dX7_init_85 : decode cX7_init 85 = .ok (.aload_n 0, 1) := by decide +kernel
theorem dX7_init_86 : decode cX7_init 86 = .ok (.new 55, 3) := by decide +kernel
theorem dX7_init_89 : decode cX7_init 89 = .ok (.dup, 1) := by decide +kernel
theorem dX7_init_90 : decode cX7_init 90 = .ok (.invokespecial 57, 3) := by decide +kernel
theorem dX7_init_93 : decode cX7_init 93 = .ok (.putfield 58, 3) := by decide +kernel
theorem dX7_init_96 : decode cX7_init 96 = .ok (.aload_n 0, 1) := by decide +kernel
theorem dX7_init_97 : decode cX7_init 97 = .ok (.new 62, 3) := by decide +kernel
theorem dX7_init_100 : decode cX7_init 100 = .ok (.dup, 1) := by decide +kernel
theorem dX7_init_101 : decode cX7_init 101 = .ok (.invokespecial 64, 3) := by decide +kernel
theorem dX7_init_104 : decode cX7_init 104 = .ok (.putfield 65, 3) := by decide +kernel
theorem dX7_init_107 : decode cX7_init 107 = .ok (.aload_n 0, 1) := by decide +kernel
theorem dX7_init_108 : decode cX7_init 108 = .ok (.bipush 16, 2) := by decide +kernel
theorem dX7_init_110 : decode cX7_init 110 = .ok (.newarray .int, 2) := by decide +kernel
theorem dX7_init_112 : decode cX7_init 112 = .ok (.putfield 69, 3) := by decide +kernel
theorem dX7_init_115 : decode cX7_init 115 = .ok (.aload_n 0, 1) := by decide +kernel
theorem dX7_init_116 : decode cX7_init 116 = .ok (.bipush 16, 2) := by decide +kernel
theorem dX7_init_118 : decode cX7_init 118 = .ok (.newarray .int, 2) := by decide +kernel
theorem dX7_init_120 : decode cX7_init 120 = .ok (.putfield 73, 3) := by decide +kernel
theorem dX7_init_123 : decode cX7_init 123 = .ok (.iconst 0, 1) := by decide +kernel
theorem dX7_init_124 : decode cX7_init 124 = .ok (.istore_n 1, 1) := by decide +kernel
theorem dX7_init_125 : decode cX7_init 125 = .ok (.iload_n 1, 1) := by decide +kernel
theorem dX7_init_126 : decode cX7_init 126 = .ok (.iconst 2, 1) := by decide +kernel
theorem dX7_init_127 : decode cX7_init 127 = .ok (.if_icmp .ge 22, 3) := by decide +kernel
theorem dX7_init_130 : decode cX7_init 130 = .ok (.aload_n 0, 1) := by decide +kernel
theorem dX7_init_131 : decode cX7_init 131 = .ok (.getfield 19, 3) := by decide +kernel
theorem dX7_init_134 : decode cX7_init 134 = .ok (.iload_n 1, 1) := by decide +kernel
theorem dX7_init_135 : decode cX7_init 135 = .ok (.new 7, 3) := by decide +kernel
theorem dX7_init_138 : decode cX7_init 138 = .ok (.dup, 1) := by decide +kernel
theorem dX7_init_139 : decode cX7_init 139 = .ok (.invokespecial 9, 3) := by decide +kernel
theorem dX7_init_142 : decode cX7_init 142 = .ok (.aastore, 1) := by decide +kernel
theorem dX7_init_143 : decode cX7_init 143 = .ok (.iinc 1 1, 3) := by decide +kernel
theorem dX7_init_146 : decode cX7_init 146 = .ok (.goto (-21), 3) := by decide +kernel
theorem dX7_init_149 : decode cX7_init 149 = .ok (.return_, 1) := by decide +kernel
set_option maxRecDepth 20000 in
theorem ggX7_piece_X7_newPieceError : GoodIn wsX7_piece wsX7_newPieceError := goodIn_r _ [10, 3, 2, 5, 11, 12, 13, 14, 15, 16, 17, 18, 19, 20, 21, 22, 23, 24, 25, 26, 27, 28, 29, 30, 31, 32, 33, 34, 35, 36, 66, 67, 68, 69, 70, 71, 72, 73, 74, 75, 76, 77, 80, 81, 82, 83, 84, 85, 86, 87, 78, 79] (by decide +kernel) (by decide +kernel)
set_option maxRecDepth 20000 in
theorem gX7_piece_X7_newPieceError : GoodIn wsX7_piece (wsV RX7 76 RX7 yX7_newPieceError wsX7_newPieceError) := goodIn_app (goodIn_of _ (by decide +kernel)) ggX7_piece_X7_newPieceError
set_option maxRecDepth 20000 in
theorem ggX7_piece_X3_record : GoodIn wsX7_piece wsX3_record := goodIn_r _ [41, 42, 43, 44, 45, 46, 40, 47, 48, 49, 50, 33, 51, 35, 36, 52, 53, 54, 55, 56, 57, 58, 59, 60, 61, 88, 89, 80, 81, 82, 83, 84, 85, 86, 87] (by decide +kernel) (by decide +kernel)
set_option maxRecDepth 20000 in
theorem gX7_piece_X3_record : GoodIn wsX7_piece (wsV RX7 80 RX3 yX3_record wsX3_record) := goodIn_app (goodIn_of _ (by decide +kernel)) ggX7_piece_X3_record
set_option maxRecDepth 20000 in
theorem ggX7_piece_X6_text : GoodIn wsX7_piece wsX6_text := goodIn_r _ [29, 16, 21, 22, 23, 14, 24, 25, 78, 79] (by decide +kernel) (by decide +kernel)
set_option maxRecDepth 20000 in
theorem gX7_piece_X6_text : GoodIn wsX7_piece (wsV RX7 84 RX6 yX6_text wsX6_text) := goodIn_app (goodIn_of _ (by decide +kernel)) ggX7_piece_X6_text
set_option maxRecDepth 20000 in
theorem ggX7_piece_X2_addPiece : GoodIn wsX7_piece wsX2_addPiece := goodIn_r _ [65, 35, 36, 56, 57, 80, 81, 82, 83, 84, 85, 86, 87] (by decide +kernel) (by decide +kernel)
set_option maxRecDepth 20000 in
theorem gX7_piece_X2_addPiece : GoodIn wsX7_piece (wsV RX7 92 RX2 yX2_addPiece wsX2_addPiece) := goodIn_app (goodIn_of _ (by decide +kernel)) ggX7_piece_X2_addPiece
theorem dX7_piece_0 : decode cX7_piece 0 = .ok (.aload_n 0, 1) := by decide +kernel
theorem dX7_piece_1 : decode cX7_piece 1 = .ok (.iload_n 1, 1) := by decide +kernel
theorem dX7_piece_2 : decode cX7_piece 2 = .ok (.invokevirtual 76, 3) := by decide +kernel
theorem dX7_piece_5 : decode cX7_piece 5 = .ok (.istore_n 2, 1) := by decide +kernel
theorem dX7_piece_6 : decode cX7_piece 6 = .ok (.iload_n 2, 1) := by decide +kernel
theorem dX7_piece_7 : decode cX7_piece 7 = .ok (.ifCond .eq 5, 3) := by decide +kernel
theorem dX7_piece_10 : decode cX7_piece 10 = .ok (.iload_n 2, 1) := by decide +kernel
theorem dX7_piece_11 : decode cX7_piece 11 = .ok (.ireturn, 1) := by decide +kernel
theorem dX7_piece_12 : decode cX7_piece 12 = .ok (.aload_n 0, 1) := by decide +kernel
theorem dX7_piece_13 : decode cX7_piece 13 = .ok (.getfield 30, 3) := by decide +kernel
theorem dX7_piece_16 : decode cX7_piece 16 = .ok (.aload_n 0, 1) := by decide +kernel
theorem dX7_piece_17 : decode cX7_piece 17 = .ok (.getfield 10, 3) := by decide +kernel
theorem dX7_piece_20 : decode cX7_piece 20 = .ok (.invokevirtual 80, 3) := by decide +kernel
theorem dX7_piece_23 : decode cX7_piece 23 = .ok (.aload_n 0, 1) := by decide +kernel
theorem dX7_piece_24 : decode cX7_piece 24 = .ok (.getfield 10, 3) := by decide +kernel
theorem dX7_piece_27 : decode cX7_piece 27 = .ok (.aload_n 0, 1) := by decide +kernel
theorem dX7_piece_28 : decode cX7_piece 28 = .ok (.getfield 37, 3) := by decide +kernel
theorem dX7_piece_31 : decode cX7_piece 31 = .ok (.invokevirtual 84, 3) := by decide +kernel
theorem dX7_piece_34 : decode cX7_piece 34 = .ok (.aload_n 0, 1) := by decide +kernel
theorem dX7_piece_35 : decode cX7_piece 35 = .ok (.getfield 37, 3) := by decide +kernel
theorem dX7_piece_38 : decode cX7_piece 38 = .ok (.getfield 88, 3) := by decide +kernel
theorem dX7_piece_41 : decode cX7_piece 41 = .ok (.iload_n 1, 1) := by decide +kernel
theorem dX7_piece_42 : decode cX7_piece 42 = .ok (.invokevirtual 92, 3) := by decide +kernel
theorem dX7_piece_45 : decode cX7_piece 45 = .ok (.aload_n 0, 1) := by decide +kernel
theorem dX7_piece_46 : decode cX7_piece 46 = .ok (.getfield 37, 3) := by decide +kernel
theorem dX7_piece_49 : decode cX7_piece 49 = .ok (.iconst 0, 1) := by decide +kernel
theorem dX7_piece_50 : decode cX7_piece 50 = .ok (.putfield 88, 3) := by decide +kernel
theorem dX7_piece_53 : decode cX7_piece 53 = .ok (.aload_n 0, 1) := by decide +kernel
theorem dX7_piece_54 : decode cX7_piece 54 = .ok (.getfield 10, 3) := by decide +kernel
theorem dX7_piece_57 : decode cX7_piece 57 = .ok (.getfield 96, 3) := by decide +kernel
theorem dX7_piece_60 : decode cX7_piece 60 = .ok (.iconst 1, 1) := by decide +kernel
theorem dX7_piece_61 : decode cX7_piece 61 = .ok (.isub, 1) := by decide +kernel
theorem dX7_piece_62 : decode cX7_piece 62 = .ok (.ireturn, 1) := by decide +kernel
set_option maxRecDepth 20000 in
theorem ggX7_weigh_X7_isPiece : GoodIn wsX7_weigh wsX7_isPiece := goodIn_r _ [8, 2, 9, 38, 39, 40, 41, 42, 43, 44, 45, 46, 47, 48, 49, 50, 51, 52, 53, 54, 55, 56, 57] (by decide +kernel) (by decide +kernel)
set_option maxRecDepth 20000 in
theorem gX7_weigh_X7_isPiece : GoodIn wsX7_weigh (wsV RX7 99 RX7 yX7_isPiece wsX7_isPiece) := goodIn_app (goodIn_of _ (by decide +kernel)) ggX7_weigh_X7_isPiece
set_option maxRecDepth 20000 in
theorem ggX7_weigh_X3_record : GoodIn wsX7_weigh wsX3_record := goodIn_r _ [14, 15, 16, 17, 18, 19, 13, 20, 21, 22, 23, 24, 25, 26, 27, 28, 29, 30, 31, 32, 33, 34, 35, 36, 37, 58, 59, 50, 51, 52, 53, 54, 55, 56, 57] (by decide +kernel) (by decide +kernel)
set_option maxRecDepth 20000 in
theorem gX7_weigh_X3_record : GoodIn wsX7_weigh (wsV RX7 80 RX3 yX3_record wsX3_record) := goodIn_app (goodIn_of _ (by decide +kernel)) ggX7_weigh_X3_record
theorem dX7_weigh_0 : decode cX7_weigh 0 = .ok (.aload_n 0, 1) := by decide +kernel
theorem dX7_weigh_1 : decode cX7_weigh 1 = .ok (.iload_n 1, 1) := by decide +kernel
theorem dX7_weigh_2 : decode cX7_weigh 2 = .ok (.invokevirtual 99, 3) := by decide +kernel
theorem dX7_weigh_5 : decode cX7_weigh 5 = .ok (.ifCond .ne 5, 3) := by decide +kernel
theorem dX7_weigh_8 : decode cX7_weigh 8 = .ok (.iconst (-1), 1) := by decide +kernel
theorem dX7_weigh_9 : decode cX7_weigh 9 = .ok (.ireturn, 1) := by decide +kernel
theorem dX7_weigh_10 : decode cX7_weigh 10 = .ok (.iload_n 2, 1) := by decide +kernel
theorem dX7_weigh_11 : decode cX7_weigh 11 = .ok (.iconst 1, 1) := by decide +kernel
theorem dX7_weigh_12 : decode cX7_weigh 12 = .ok (.if_icmp .lt 9, 3) := by decide +kernel
theorem dX7_weigh_15 : decode cX7_weigh 15 = .ok (.iload_n 2, 1) := by decide +kernel
theorem dX7_weigh_16 : decode cX7_weigh 16 = .ok (.bipush 9, 2) := by decide +kernel
theorem dX7_weigh_18 : decode cX7_weigh 18 = .ok (.if_icmp .le 6, 3) := by decide +kernel
theorem dX7_weigh_21 : decode cX7_weigh 21 = .ok (.bipush (-2), 2) := by decide +kernel
theorem dX7_weigh_23 : decode cX7_weigh 23 = .ok (.ireturn, 1) := by decide +kernel
theorem dX7_weigh_24 : decode cX7_weigh 24 = .ok (.aload_n 0, 1) := by decide +kernel
theorem dX7_weigh_25 : decode cX7_weigh 25 = .ok (.getfield 30, 3) := by decide +kernel
theorem dX7_weigh_28 : decode cX7_weigh 28 = .ok (.aload_n 0, 1) := by decide +kernel
theorem dX7_weigh_29 : decode cX7_weigh 29 = .ok (.getfield 10, 3) := by decide +kernel
theorem dX7_weigh_32 : decode cX7_weigh 32 = .ok (.invokevirtual 80, 3) := by decide +kernel
theorem dX7_weigh_35 : decode cX7_weigh 35 = .ok (.aload_n 0, 1) := by decide +kernel
theorem dX7_weigh_36 : decode cX7_weigh 36 = .ok (.getfield 10, 3) := by decide +kernel
theorem dX7_weigh_39 : decode cX7_weigh 39 = .ok (.getfield 103, 3) := by decide +kernel
theorem dX7_weigh_42 : decode cX7_weigh 42 = .ok (.iload_n 1, 1) := by decide +kernel
theorem dX7_weigh_43 : decode cX7_weigh 43 = .ok (.iaload, 1) := by decide +kernel
theorem dX7_weigh_44 : decode cX7_weigh 44 = .ok (.istore_n 3, 1) := by decide +kernel
theorem dX7_weigh_45 : decode cX7_weigh 45 = .ok (.aload_n 0, 1) := by decide +kernel
theorem dX7_weigh_46 : decode cX7_weigh 46 = .ok (.getfield 10, 3) := by decide +kernel
theorem dX7_weigh_49 : decode cX7_weigh 49 = .ok (.getfield 103, 3) := by decide +kernel
theorem dX7_weigh_52 : decode cX7_weigh 52 = .ok (.iload_n 1, 1) := by decide +kernel
theorem dX7_weigh_53 : decode cX7_weigh 53 = .ok (.iload_n 2, 1) := by decide +kernel
theorem dX7_weigh_54 : decode cX7_weigh 54 = .ok (.iastore, 1) := by decide +kernel
theorem dX7_weigh_55 : decode cX7_weigh 55 = .ok (.iload_n 3, 1) := by decide +kernel
theorem dX7_weigh_56 : decode cX7_weigh 56 = .ok (.ireturn, 1) := by decide +kernel
set_option maxRecDepth 20000 in
theorem ggX7_drop_X7_isPiece : GoodIn wsX7_drop wsX7_isPiece := goodIn_r _ [8, 2, 3, 41, 42, 43, 44, 45, 46, 47, 48, 49, 50, 51, 52, 53, 54, 55, 56, 57, 58, 59, 60] (by decide +kernel) (by decide +kernel)
set_option maxRecDepth 20000 in
theorem gX7_drop_X7_isPiece : GoodIn wsX7_drop (wsV RX7 99 RX7 yX7_isPiece wsX7_isPiece) := goodIn_app (goodIn_of _ (by decide +kernel)) ggX7_drop_X7_isPiece
set_option maxRecDepth 20000 in
theorem ggX7_drop_X3_record : GoodIn wsX7_drop wsX3_record := goodIn_r _ [13, 14, 15, 16, 17, 18, 12, 19, 20, 21, 22, 23, 24, 25, 26, 27, 28, 29, 30, 31, 32, 33, 34, 35, 36, 61, 62, 53, 54, 55, 56, 57, 58, 59, 60] (by decide +kernel) (by decide +kernel)
set_option maxRecDepth 20000 in
theorem gX7_drop_X3_record : GoodIn wsX7_drop (wsV RX7 80 RX3 yX3_record wsX3_record) := goodIn_app (goodIn_of _ (by decide +kernel)) ggX7_drop_X3_record
set_option maxRecDepth 20000 in
theorem ggX7_drop_X2_removePiece : GoodIn wsX7_drop wsX2_removePiece := goodIn_r _ [40, 25, 26, 27, 28, 29, 30, 31, 32, 53, 54, 55, 56, 57, 58, 59, 60] (by decide +kernel) (by decide +kernel)
set_option maxRecDepth 20000 in
theorem gX7_drop_X2_removePiece : GoodIn wsX7_drop (wsV RX7 106 RX2 yX2_removePiece wsX2_removePiece) := goodIn_app (goodIn_of _ (by decide +kernel)) ggX7_drop_X2_removePiece
theorem dX7_drop_0 : decode cX7_drop 0 = .ok (.aload_n 0, 1) := by decide +kernel
theorem dX7_drop_1 : decode cX7_drop 1 = .ok (.iload_n 1, 1) := by decide +kernel
theorem dX7_drop_2 : decode cX7_drop 2 = .ok (.invokevirtual 99, 3) := by decide +kernel
theorem dX7_drop_5 : decode cX7_drop 5 = .ok (.ifCond .ne 5, 3) := by decide +kernel
theorem dX7_drop_8 : decode cX7_drop 8 = .ok (.iconst (-1), 1) := by decide +kernel
theorem dX7_drop_9 : decode cX7_drop 9 = .ok (.ireturn, 1) := by decide +kernel
theorem dX7_drop_10 : decode cX7_drop 10 = .ok (.aload_n 0, 1) := by decide +kernel
theorem dX7_drop_11 : decode cX7_drop 11 = .ok (.getfield 30, 3) := by decide +kernel
theorem dX7_drop_14 : decode cX7_drop 14 = .ok (.aload_n 0, 1) := by decide +kernel
theorem dX7_drop_15 : decode cX7_drop 15 = .ok (.getfield 10, 3) := by decide +kernel
theorem dX7_drop_18 : decode cX7_drop 18 = .ok (.invokevirtual 80, 3) := by decide +kernel
theorem dX7_drop_21 : decode cX7_drop 21 = .ok (.aload_n 0, 1) := by decide +kernel
theorem dX7_drop_22 : decode cX7_drop 22 = .ok (.getfield 10, 3) := by decide +kernel
theorem dX7_drop_25 : decode cX7_drop 25 = .ok (.iload_n 1, 1) := by decide +kernel
theorem dX7_drop_26 : decode cX7_drop 26 = .ok (.invokevirtual 106, 3) := by decide +kernel
theorem dX7_drop_29 : decode cX7_drop 29 = .ok (.aload_n 0, 1) := by decide +kernel
theorem dX7_drop_30 : decode cX7_drop 30 = .ok (.getfield 10, 3) := by decide +kernel
theorem dX7_drop_33 : decode cX7_drop 33 = .ok (.getfield 96, 3) := by decide +kernel
theorem dX7_drop_36 : decode cX7_drop 36 = .ok (.ireturn, 1) := by decide +kernel
set_option maxRecDepth 20000 in
theorem ggX7_word_X6_holdsLetters : GoodIn wsX7_word wsX6_holdsLetters := goodIn_r _ [10, 11, 12, 13, 14, 9, 15, 16, 17, 18, 19, 20, 75, 76] (by decide +kernel) (by decide +kernel)
set_option maxRecDepth 20000 in
theorem gX7_word_X6_holdsLetters : GoodIn wsX7_word (wsV RX7 110 RX6 yX6_holdsLetters wsX6_holdsLetters) := goodIn_app (goodIn_of _ (by decide +kernel)) ggX7_word_X6_holdsLetters
set_option maxRecDepth 20000 in
theorem ggX7_word_X3_record : GoodIn wsX7_word wsX3_record := goodIn_r _ [25, 26, 27, 28, 29, 30, 24, 31, 32, 33, 34, 35, 36, 37, 38, 39, 40, 41, 42, 43, 44, 45, 46, 47, 48, 77, 78, 67, 68, 69, 70, 71, 72, 73, 74] (by decide +kernel) (by decide +kernel)
set_option maxRecDepth 20000 in
theorem gX7_word_X3_record : GoodIn wsX7_word (wsV RX7 80 RX3 yX3_record wsX3_record) := goodIn_app (goodIn_of _ (by decide +kernel)) ggX7_word_X3_record
set_option maxRecDepth 20000 in
theorem ggX7_word_X2_addWord : GoodIn wsX7_word wsX2_addWord := goodIn_r _ [52, 45, 53, 48, 46, 47, 54, 17, 18, 9, 19, 20, 67, 68, 69, 70, 71, 72, 73, 74, 75, 76] (by decide +kernel) (by decide +kernel)
set_option maxRecDepth 20000 in
theorem gX7_word_X2_addWord : GoodIn wsX7_word (wsV RX7 116 RX2 yX2_addWord wsX2_addWord) := goodIn_app (goodIn_of _ (by decide +kernel)) ggX7_word_X2_addWord
theorem dX7_word_0 : decode cX7_word 0 = .ok (.aload_n 0, 1) := by decide +kernel
theorem dX7_word_1 : decode cX7_word 1 = .ok (.getfield 37, 3) := by decide +kernel
theorem dX7_word_4 : decode cX7_word 4 = .ok (.bipush 12, 2) := by decide +kernel
theorem dX7_word_6 : decode cX7_word 6 = .ok (.invokevirtual 110, 3) := by decide +kernel
theorem dX7_word_9 : decode cX7_word 9 = .ok (.ifCond .ne 6, 3) := by decide +kernel
theorem dX7_word_12 : decode cX7_word 12 = .ok (.bipush (-3), 2) := by decide +kernel
theorem dX7_word_14 : decode cX7_word 14 = .ok (.ireturn, 1) := by decide +kernel
theorem dX7_word_15 : decode cX7_word 15 = .ok (.iload_n 1, 1) := by decide +kernel
theorem dX7_word_16 : decode cX7_word 16 = .ok (.iconst 1, 1) := by decide +kernel
theorem dX7_word_17 : decode cX7_word 17 = .ok (.if_icmp .lt 9, 3) := by decide +kernel
theorem dX7_word_20 : decode cX7_word 20 = .ok (.iload_n 1, 1) := by decide +kernel
theorem dX7_word_21 : decode cX7_word 21 = .ok (.bipush 99, 2) := by decide +kernel
theorem dX7_word_23 : decode cX7_word 23 = .ok (.if_icmp .le 6, 3) := by decide +kernel
theorem dX7_word_26 : decode cX7_word 26 = .ok (.bipush (-2), 2) := by decide +kernel
theorem dX7_word_28 : decode cX7_word 28 = .ok (.ireturn, 1) := by decide +kernel
theorem dX7_word_29 : decode cX7_word 29 = .ok (.aload_n 0, 1) := by decide +kernel
theorem dX7_word_30 : decode cX7_word 30 = .ok (.getfield 10, 3) := by decide +kernel
theorem dX7_word_33 : decode cX7_word 33 = .ok (.getfield 113, 3) := by decide +kernel
theorem dX7_word_36 : decode cX7_word 36 = .ok (.bipush 8, 2) := by decide +kernel
theorem dX7_word_38 : decode cX7_word 38 = .ok (.if_icmp .lt 6, 3) := by decide +kernel
theorem dX7_word_41 : decode cX7_word 41 = .ok (.bipush (-4), 2) := by decide +kernel
theorem dX7_word_43 : decode cX7_word 43 = .ok (.ireturn, 1) := by decide +kernel
theorem dX7_word_44 : decode cX7_word 44 = .ok (.aload_n 0, 1) := by decide +kernel
theorem dX7_word_45 : decode cX7_word 45 = .ok (.getfield 30, 3) := by decide +kernel
theorem dX7_word_48 : decode cX7_word 48 = .ok (.aload_n 0, 1) := by decide +kernel
theorem dX7_word_49 : decode cX7_word 49 = .ok (.getfield 10, 3) := by decide +kernel
theorem dX7_word_52 : decode cX7_word 52 = .ok (.invokevirtual 80, 3) := by decide +kernel
theorem dX7_word_55 : decode cX7_word 55 = .ok (.aload_n 0, 1) := by decide +kernel
theorem dX7_word_56 : decode cX7_word 56 = .ok (.getfield 10, 3) := by decide +kernel
theorem dX7_word_59 : decode cX7_word 59 = .ok (.aload_n 0, 1) := by decide +kernel
theorem dX7_word_60 : decode cX7_word 60 = .ok (.getfield 37, 3) := by decide +kernel
theorem dX7_word_63 : decode cX7_word 63 = .ok (.iload_n 1, 1) := by decide +kernel
theorem dX7_word_64 : decode cX7_word 64 = .ok (.invokevirtual 116, 3) := by decide +kernel
theorem dX7_word_67 : decode cX7_word 67 = .ok (.aload_n 0, 1) := by decide +kernel
theorem dX7_word_68 : decode cX7_word 68 = .ok (.getfield 37, 3) := by decide +kernel
theorem dX7_word_71 : decode cX7_word 71 = .ok (.iconst 0, 1) := by decide +kernel
theorem dX7_word_72 : decode cX7_word 72 = .ok (.putfield 88, 3) := by decide +kernel
theorem dX7_word_75 : decode cX7_word 75 = .ok (.aload_n 0, 1) := by decide +kernel
theorem dX7_word_76 : decode cX7_word 76 = .ok (.getfield 10, 3) := by decide +kernel
theorem dX7_word_79 : decode cX7_word 79 = .ok (.getfield 113, 3) := by decide +kernel
theorem dX7_word_82 : decode cX7_word 82 = .ok (.iconst 1, 1) := by decide +kernel
theorem dX7_word_83 : decode cX7_word 83 = .ok (.isub, 1) := by decide +kernel
theorem dX7_word_84 : decode cX7_word 84 = .ok (.ireturn, 1) := by decide +kernel
set_option maxRecDepth 20000 in
theorem ggX7_recount_X7_isWord : GoodIn wsX7_recount wsX7_isWord := goodIn_r _ [8, 2, 9, 38, 39, 40, 41, 42, 43, 44, 45, 46, 47, 48, 49, 50, 51, 52, 53, 54, 55, 56, 57] (by decide +kernel) (by decide +kernel)
set_option maxRecDepth 20000 in
theorem gX7_recount_X7_isWord : GoodIn wsX7_recount (wsV RX7 120 RX7 yX7_isWord wsX7_isWord) := goodIn_app (goodIn_of _ (by decide +kernel)) ggX7_recount_X7_isWord
set_option maxRecDepth 20000 in
theorem ggX7_recount_X3_record : GoodIn wsX7_recount wsX3_record := goodIn_r _ [14, 15, 16, 17, 18, 19, 13, 20, 21, 22, 23, 24, 25, 26, 27, 28, 29, 30, 31, 32, 33, 34, 35, 36, 37, 58, 59, 50, 51, 52, 53, 54, 55, 56, 57] (by decide +kernel) (by decide +kernel)
set_option maxRecDepth 20000 in
theorem gX7_recount_X3_record : GoodIn wsX7_recount (wsV RX7 80 RX3 yX3_record wsX3_record) := goodIn_app (goodIn_of _ (by decide +kernel)) ggX7_recount_X3_record
theorem dX7_recount_0 : decode cX7_recount 0 = .ok (.aload_n 0, 1) := by decide +kernel
theorem dX7_recount_1 : decode cX7_recount 1 = .ok (.iload_n 1, 1) := by decide +kernel
theorem dX7_recount_2 : decode cX7_recount 2 = .ok (.invokevirtual 120, 3) := by decide +kernel
theorem dX7_recount_5 : decode cX7_recount 5 = .ok (.ifCond .ne 5, 3) := by decide +kernel
theorem dX7_recount_8 : decode cX7_recount 8 = .ok (.iconst (-1), 1) := by decide +kernel
theorem dX7_recount_9 : decode cX7_recount 9 = .ok (.ireturn, 1) := by decide +kernel
theorem dX7_recount_10 : decode cX7_recount 10 = .ok (.iload_n 2, 1) := by decide +kernel
theorem dX7_recount_11 : decode cX7_recount 11 = .ok (.iconst 1, 1) := by decide +kernel
theorem dX7_recount_12 : decode cX7_recount 12 = .ok (.if_icmp .lt 9, 3) := by decide +kernel
theorem dX7_recount_15 : decode cX7_recount 15 = .ok (.iload_n 2, 1) := by decide +kernel
theorem dX7_recount_16 : decode cX7_recount 16 = .ok (.bipush 99, 2) := by decide +kernel
theorem dX7_recount_18 : decode cX7_recount 18 = .ok (.if_icmp .le 6, 3) := by decide +kernel
theorem dX7_recount_21 : decode cX7_recount 21 = .ok (.bipush (-2), 2) := by decide +kernel
theorem dX7_recount_23 : decode cX7_recount 23 = .ok (.ireturn, 1) := by decide +kernel
theorem dX7_recount_24 : decode cX7_recount 24 = .ok (.aload_n 0, 1) := by decide +kernel
theorem dX7_recount_25 : decode cX7_recount 25 = .ok (.getfield 30, 3) := by decide +kernel
theorem dX7_recount_28 : decode cX7_recount 28 = .ok (.aload_n 0, 1) := by decide +kernel
theorem dX7_recount_29 : decode cX7_recount 29 = .ok (.getfield 10, 3) := by decide +kernel
theorem dX7_recount_32 : decode cX7_recount 32 = .ok (.invokevirtual 80, 3) := by decide +kernel
theorem dX7_recount_35 : decode cX7_recount 35 = .ok (.aload_n 0, 1) := by decide +kernel
theorem dX7_recount_36 : decode cX7_recount 36 = .ok (.getfield 10, 3) := by decide +kernel
theorem dX7_recount_39 : decode cX7_recount 39 = .ok (.getfield 123, 3) := by decide +kernel
theorem dX7_recount_42 : decode cX7_recount 42 = .ok (.iload_n 1, 1) := by decide +kernel
theorem dX7_recount_43 : decode cX7_recount 43 = .ok (.iaload, 1) := by decide +kernel
theorem dX7_recount_44 : decode cX7_recount 44 = .ok (.istore_n 3, 1) := by decide +kernel
theorem dX7_recount_45 : decode cX7_recount 45 = .ok (.aload_n 0, 1) := by decide +kernel
theorem dX7_recount_46 : decode cX7_recount 46 = .ok (.getfield 10, 3) := by decide +kernel
theorem dX7_recount_49 : decode cX7_recount 49 = .ok (.getfield 123, 3) := by decide +kernel
theorem dX7_recount_52 : decode cX7_recount 52 = .ok (.iload_n 1, 1) := by decide +kernel
theorem dX7_recount_53 : decode cX7_recount 53 = .ok (.iload_n 2, 1) := by decide +kernel
theorem dX7_recount_54 : decode cX7_recount 54 = .ok (.iastore, 1) := by decide +kernel
theorem dX7_recount_55 : decode cX7_recount 55 = .ok (.iload_n 3, 1) := by decide +kernel
theorem dX7_recount_56 : decode cX7_recount 56 = .ok (.ireturn, 1) := by decide +kernel
set_option maxRecDepth 20000 in
theorem ggX7_forget_X7_isWord : GoodIn wsX7_forget wsX7_isWord := goodIn_r _ [8, 2, 3, 41, 42, 43, 44, 45, 46, 47, 48, 49, 50, 51, 52, 53, 54, 55, 56, 57, 58, 59, 60] (by decide +kernel) (by decide +kernel)
set_option maxRecDepth 20000 in
theorem gX7_forget_X7_isWord : GoodIn wsX7_forget (wsV RX7 120 RX7 yX7_isWord wsX7_isWord) := goodIn_app (goodIn_of _ (by decide +kernel)) ggX7_forget_X7_isWord
set_option maxRecDepth 20000 in
theorem ggX7_forget_X3_record : GoodIn wsX7_forget wsX3_record := goodIn_r _ [13, 14, 15, 16, 17, 18, 12, 19, 20, 21, 22, 23, 24, 25, 26, 27, 28, 29, 30, 31, 32, 33, 34, 35, 36, 61, 62, 53, 54, 55, 56, 57, 58, 59, 60] (by decide +kernel) (by decide +kernel)
set_option maxRecDepth 20000 in
theorem gX7_forget_X3_record : GoodIn wsX7_forget (wsV RX7 80 RX3 yX3_record wsX3_record) := goodIn_app (goodIn_of _ (by decide +kernel)) ggX7_forget_X3_record
set_option maxRecDepth 20000 in
theorem ggX7_forget_X2_removeWord : GoodIn wsX7_forget wsX2_removeWord := goodIn_r _ [40, 33, 34, 27, 28, 29, 30, 35, 36, 53, 54, 55, 56, 57, 58, 59, 60] (by decide +kernel) (by decide +kernel)
set_option maxRecDepth 20000 in
theorem gX7_forget_X2_removeWord : GoodIn wsX7_forget (wsV RX7 126 RX2 yX2_removeWord wsX2_removeWord) := goodIn_app (goodIn_of _ (by decide +kernel)) ggX7_forget_X2_removeWord
theorem dX7_forget_0 : decode cX7_forget 0 = .ok (.aload_n 0, 1) := by decide +kernel
theorem dX7_forget_1 : decode cX7_forget 1 = .ok (.iload_n 1, 1) := by decide +kernel
theorem dX7_forget_2 : decode cX7_forget 2 = .ok (.invokevirtual 120, 3) := by decide +kernel
theorem dX7_forget_5 : decode cX7_forget 5 = .ok (.ifCond .ne 5, 3) := by decide +kernel
theorem dX7_forget_8 : decode cX7_forget 8 = .ok (.iconst (-1), 1) := by decide +kernel
theorem dX7_forget_9 : decode cX7_forget 9 = .ok (.ireturn, 1) := by decide +kernel
theorem dX7_forget_10 : decode cX7_forget 10 = .ok (.aload_n 0, 1) := by decide +kernel
theorem dX7_forget_11 : decode cX7_forget 11 = .ok (.getfield 30, 3) := by decide +kernel
theorem dX7_forget_14 : decode cX7_forget 14 = .ok (.aload_n 0, 1) := by decide +kernel
theorem dX7_forget_15 : decode cX7_forget 15 = .ok (.getfield 10, 3) := by decide +kernel
theorem dX7_forget_18 : decode cX7_forget 18 = .ok (.invokevirtual 80, 3) := by decide +kernel
theorem dX7_forget_21 : decode cX7_forget 21 = .ok (.aload_n 0, 1) := by decide +kernel
theorem dX7_forget_22 : decode cX7_forget 22 = .ok (.getfield 10, 3) := by decide +kernel
theorem dX7_forget_25 : decode cX7_forget 25 = .ok (.iload_n 1, 1) := by decide +kernel
theorem dX7_forget_26 : decode cX7_forget 26 = .ok (.invokevirtual 126, 3) := by decide +kernel
theorem dX7_forget_29 : decode cX7_forget 29 = .ok (.aload_n 0, 1) := by decide +kernel
theorem dX7_forget_30 : decode cX7_forget 30 = .ok (.getfield 10, 3) := by decide +kernel
theorem dX7_forget_33 : decode cX7_forget 33 = .ok (.getfield 113, 3) := by decide +kernel
theorem dX7_forget_36 : decode cX7_forget 36 = .ok (.ireturn, 1) := by decide +kernel
set_option maxRecDepth 20000 in
theorem ggX7_grow_X7_findGrowing : GoodIn wsX7_grow wsX7_findGrowing := goodIn_r _ [12, 4, 13, 1, 14, 15, 16, 17, 18, 19, 20, 21, 22, 23, 24, 25, 26, 27, 11, 28, 29, 30, 31, 32, 33, 34, 35, 36, 37, 38, 39, 40, 41, 42, 43, 44, 45, 46, 47, 48, 49, 50, 51, 52, 53, 54, 55, 56, 57, 58, 59, 60, 61, 62, 63, 64, 65, 66, 67, 68, 69, 70, 71, 72, 73, 74, 75, 76, 77, 78, 79, 80, 81, 82, 83, 84, 85, 86, 87, 88, 89, 90, 91, 92, 93, 94, 95, 96, 97, 98, 99, 100, 101, 102, 103, 104, 105, 106, 107, 108, 109, 110, 111, 112, 113, 114, 115, 116, 117, 118, 119, 120, 146, 147, 148, 149, 150, 151, 152, 153, 154, 155, 156, 157, 166, 167, 168, 169, 170, 158, 159, 160, 161, 162, 163, 164, 165, 171, 172, 173, 174, 175, 176, 177, 178, 179, 180, 181, 182] (by decide +kernel) (by decide +kernel)
set_option maxRecDepth 20000 in
theorem gX7_grow_X7_findGrowing : GoodIn wsX7_grow (wsV RX7 129 RX7 yX7_findGrowing wsX7_findGrowing) := goodIn_app (goodIn_of _ (by decide +kernel)) ggX7_grow_X7_findGrowing
set_option maxRecDepth 20000 in
theorem ggX7_grow_X3_record : GoodIn wsX7_grow wsX3_record := goodIn_r _ [125, 126, 127, 128, 129, 130, 124, 131, 132, 133, 134, 52, 135, 62, 63, 136, 39, 40, 41, 137, 138, 139, 140, 141, 54, 183, 184, 158, 159, 160, 161, 162, 163, 164, 165] (by decide +kernel) (by decide +kernel)
set_option maxRecDepth 20000 in
theorem gX7_grow_X3_record : GoodIn wsX7_grow (wsV RX7 80 RX3 yX3_record wsX3_record) := goodIn_app (goodIn_of _ (by decide +kernel)) ggX7_grow_X3_record
set_option maxRecDepth 20000 in
theorem ggX7_grow_X2_addPiece : GoodIn wsX7_grow wsX2_addPiece := goodIn_r _ [145, 62, 63, 137, 138, 158, 159, 160, 161, 162, 163, 164, 165] (by decide +kernel) (by decide +kernel)
set_option maxRecDepth 20000 in
theorem gX7_grow_X2_addPiece : GoodIn wsX7_grow (wsV RX7 92 RX2 yX2_addPiece wsX2_addPiece) := goodIn_app (goodIn_of _ (by decide +kernel)) ggX7_grow_X2_addPiece
theorem dX7_grow_0 : decode cX7_grow 0 = .ok (.aload_n 0, 1) := by decide +kernel
theorem dX7_grow_1 : decode cX7_grow 1 = .ok (.getfield 10, 3) := by decide +kernel
theorem dX7_grow_4 : decode cX7_grow 4 = .ok (.getfield 96, 3) := by decide +kernel
theorem dX7_grow_7 : decode cX7_grow 7 = .ok (.bipush 16, 2) := by decide +kernel
theorem dX7_grow_9 : decode cX7_grow 9 = .ok (.if_icmp .lt 6, 3) := by decide +kernel
theorem dX7_grow_12 : decode cX7_grow 12 = .ok (.bipush (-4), 2) := by decide +kernel
theorem dX7_grow_14 : decode cX7_grow 14 = .ok (.ireturn, 1) := by decide +kernel
theorem dX7_grow_15 : decode cX7_grow 15 = .ok (.aload_n 0, 1) := by decide +kernel
theorem dX7_grow_16 : decode cX7_grow 16 = .ok (.invokevirtual 129, 3) := by decide +kernel
theorem dX7_grow_19 : decode cX7_grow 19 = .ok (.istore_n 1, 1) := by decide +kernel
theorem dX7_grow_20 : decode cX7_grow 20 = .ok (.iload_n 1, 1) := by decide +kernel
theorem dX7_grow_21 : decode cX7_grow 21 = .ok (.ifCond .ge 6, 3) := by decide +kernel
theorem dX7_grow_24 : decode cX7_grow 24 = .ok (.bipush (-5), 2) := by decide +kernel
theorem dX7_grow_26 : decode cX7_grow 26 = .ok (.ireturn, 1) := by decide +kernel
theorem dX7_grow_27 : decode cX7_grow 27 = .ok (.aload_n 0, 1) := by decide +kernel
theorem dX7_grow_28 : decode cX7_grow 28 = .ok (.getfield 30, 3) := by decide +kernel
theorem dX7_grow_31 : decode cX7_grow 31 = .ok (.aload_n 0, 1) := by decide +kernel
theorem dX7_grow_32 : decode cX7_grow 32 = .ok (.getfield 10, 3) := by decide +kernel
theorem dX7_grow_35 : decode cX7_grow 35 = .ok (.invokevirtual 80, 3) := by decide +kernel
theorem dX7_grow_38 : decode cX7_grow 38 = .ok (.aload_n 0, 1) := by decide +kernel
theorem dX7_grow_39 : decode cX7_grow 39 = .ok (.getfield 10, 3) := by decide +kernel
theorem dX7_grow_42 : decode cX7_grow 42 = .ok (.aload_n 0, 1) := by decide +kernel
theorem dX7_grow_43 : decode cX7_grow 43 = .ok (.getfield 65, 3) := by decide +kernel
theorem dX7_grow_46 : decode cX7_grow 46 = .ok (.getfield 132, 3) := by decide +kernel
theorem dX7_grow_49 : decode cX7_grow 49 = .ok (.iload_n 1, 1) := by decide +kernel
theorem dX7_grow_50 : decode cX7_grow 50 = .ok (.iaload, 1) := by decide +kernel
theorem dX7_grow_51 : decode cX7_grow 51 = .ok (.aload_n 0, 1) := by decide +kernel
theorem dX7_grow_52 : decode cX7_grow 52 = .ok (.getfield 65, 3) := by decide +kernel
theorem dX7_grow_55 : decode cX7_grow 55 = .ok (.getfield 134, 3) := by decide +kernel
theorem dX7_grow_58 : decode cX7_grow 58 = .ok (.iload_n 1, 1) := by decide +kernel
theorem dX7_grow_59 : decode cX7_grow 59 = .ok (.iaload, 1) := by decide +kernel
theorem dX7_grow_60 : decode cX7_grow 60 = .ok (.aload_n 0, 1) := by decide +kernel
theorem dX7_grow_61 : decode cX7_grow 61 = .ok (.getfield 65, 3) := by decide +kernel
theorem dX7_grow_64 : decode cX7_grow 64 = .ok (.getfield 137, 3) := by decide +kernel
theorem dX7_grow_67 : decode cX7_grow 67 = .ok (.iload_n 1, 1) := by decide +kernel
theorem dX7_grow_68 : decode cX7_grow 68 = .ok (.iaload, 1) := by decide +kernel
theorem dX7_grow_69 : decode cX7_grow 69 = .ok (.invokevirtual 92, 3) := by decide +kernel
theorem dX7_grow_72 : decode cX7_grow 72 = .ok (.aload_n 0, 1) := by decide +kernel
theorem dX7_grow_73 : decode cX7_grow 73 = .ok (.getfield 10, 3) := by decide +kernel
theorem dX7_grow_76 : decode cX7_grow 76 = .ok (.getfield 96, 3) := by decide +kernel
theorem dX7_grow_79 : decode cX7_grow 79 = .ok (.iconst 1, 1) := by decide +kernel
theorem dX7_grow_80 : decode cX7_grow 80 = .ok (.isub, 1) := by decide +kernel
theorem dX7_grow_81 : decode cX7_grow 81 = .ok (.ireturn, 1) := by decide +kernel
set_option maxRecDepth 20000 in
theorem ggX7_tune_X3_record : GoodIn wsX7_tune wsX3_record := goodIn_r _ [14, 15, 16, 17, 18, 19, 13, 20, 21, 22, 23, 24, 25, 26, 27, 28, 29, 30, 31, 32, 33, 34, 35, 36, 37, 136, 137, 128, 129, 130, 131, 132, 133, 134, 135] (by decide +kernel) (by decide +kernel)
set_option maxRecDepth 20000 in
theorem gX7_tune_X3_record : GoodIn wsX7_tune (wsV RX7 80 RX3 yX3_record wsX3_record) := goodIn_app (goodIn_of _ (by decide +kernel)) ggX7_tune_X3_record
set_option maxRecDepth 20000 in
theorem ggX7_tune_X7_bearAll : GoodIn wsX7_tune wsX7_bearAll := goodIn_r _ [42, 4, 2, 43, 44, 45, 3, 46, 47, 48, 49, 50, 51, 52, 53, 54, 55, 56, 57, 58, 59, 60, 29, 30, 31, 61, 62, 63, 64, 65, 66, 67, 68, 7, 69, 70, 71, 72, 24, 73, 37, 74, 75, 76, 77, 78, 79, 80, 26, 27, 81, 82, 83, 84, 85, 86, 87, 88, 89, 90, 91, 92, 93, 94, 95, 96, 97, 98, 99, 100, 101, 102, 103, 104, 105, 106, 107, 108, 109, 110, 111, 112, 113, 114, 115, 116, 117, 118, 119, 120, 121, 122, 123, 124, 125, 126, 127, 128, 129, 130, 131, 132, 133, 134, 135, 138, 139, 140, 141, 142, 143, 144] (by decide +kernel) (by decide +kernel)
set_option maxRecDepth 20000 in
theorem gX7_tune_X7_bearAll : GoodIn wsX7_tune (wsV RX7 140 RX7 yX7_bearAll wsX7_bearAll) := goodIn_app (goodIn_of _ (by decide +kernel)) ggX7_tune_X7_bearAll
theorem dX7_tune_0 : decode cX7_tune 0 = .ok (.aload_n 0, 1) := by decide +kernel
theorem dX7_tune_1 : decode cX7_tune 1 = .ok (.getfield 30, 3) := by decide +kernel
theorem dX7_tune_4 : decode cX7_tune 4 = .ok (.aload_n 0, 1) := by decide +kernel
theorem dX7_tune_5 : decode cX7_tune 5 = .ok (.getfield 10, 3) := by decide +kernel
theorem dX7_tune_8 : decode cX7_tune 8 = .ok (.invokevirtual 80, 3) := by decide +kernel
theorem dX7_tune_11 : decode cX7_tune 11 = .ok (.aload_n 0, 1) := by decide +kernel
theorem dX7_tune_12 : decode cX7_tune 12 = .ok (.invokevirtual 140, 3) := by decide +kernel
theorem dX7_tune_15 : decode cX7_tune 15 = .ok (.iconst 0, 1) := by decide +kernel
theorem dX7_tune_16 : decode cX7_tune 16 = .ok (.istore_n 1, 1) := by decide +kernel
theorem dX7_tune_17 : decode cX7_tune 17 = .ok (.iconst 0, 1) := by decide +kernel
theorem dX7_tune_18 : decode cX7_tune 18 = .ok (.istore_n 2, 1) := by decide +kernel
theorem dX7_tune_19 : decode cX7_tune 19 = .ok (.iload_n 2, 1) := by decide +kernel
theorem dX7_tune_20 : decode cX7_tune 20 = .ok (.aload_n 0, 1) := by decide +kernel
theorem dX7_tune_21 : decode cX7_tune 21 = .ok (.getfield 10, 3) := by decide +kernel
theorem dX7_tune_24 : decode cX7_tune 24 = .ok (.getfield 96, 3) := by decide +kernel
theorem dX7_tune_27 : decode cX7_tune 27 = .ok (.if_icmp .ge 20, 3) := by decide +kernel
theorem dX7_tune_30 : decode cX7_tune 30 = .ok (.iload_n 1, 1) := by decide +kernel
theorem dX7_tune_31 : decode cX7_tune 31 = .ok (.aload_n 0, 1) := by decide +kernel
theorem dX7_tune_32 : decode cX7_tune 32 = .ok (.getfield 69, 3) := by decide +kernel
theorem dX7_tune_35 : decode cX7_tune 35 = .ok (.iload_n 2, 1) := by decide +kernel
theorem dX7_tune_36 : decode cX7_tune 36 = .ok (.iaload, 1) := by decide +kernel
theorem dX7_tune_37 : decode cX7_tune 37 = .ok (.invokestatic 143, 3) := by decide +kernel
theorem dX7_tune_40 : decode cX7_tune 40 = .ok (.istore_n 1, 1) := by decide +kernel
theorem dX7_tune_41 : decode cX7_tune 41 = .ok (.iinc 2 1, 3) := by decide +kernel
theorem dX7_tune_44 : decode cX7_tune 44 = .ok (.goto (-25), 3) := by decide +kernel
theorem dX7_tune_47 : decode cX7_tune 47 = .ok (.iconst 0, 1) := by decide +kernel
theorem dX7_tune_48 : decode cX7_tune 48 = .ok (.istore_n 2, 1) := by decide +kernel
theorem dX7_tune_49 : decode cX7_tune 49 = .ok (.iconst 0, 1) := by decide +kernel
theorem dX7_tune_50 : decode cX7_tune 50 = .ok (.istore_n 3, 1) := by decide +kernel
theorem dX7_tune_51 : decode cX7_tune 51 = .ok (.iload_n 3, 1) := by decide +kernel
theorem dX7_tune_52 : decode cX7_tune 52 = .ok (.aload_n 0, 1) := by decide +kernel
theorem dX7_tune_53 : decode cX7_tune 53 = .ok (.getfield 10, 3) := by decide +kernel
theorem dX7_tune_56 : decode cX7_tune 56 = .ok (.getfield 96, 3) := by decide +kernel
theorem dX7_tune_59 : decode cX7_tune 59 = .ok (.if_icmp .ge 60, 3) := by decide +kernel
theorem dX7_tune_62 : decode cX7_tune 62 = .ok (.iload_n 1, 1) := by decide +kernel
theorem dX7_tune_63 : decode cX7_tune 63 = .ok (.ifCond .le 19, 3) := by decide +kernel
theorem dX7_tune_66 : decode cX7_tune 66 = .ok (.iconst 1, 1) := by decide +kernel
theorem dX7_tune_67 : decode cX7_tune 67 = .ok (.bipush 8, 2) := by decide +kernel
theorem dX7_tune_69 : decode cX7_tune 69 = .ok (.aload_n 0, 1) := by decide +kernel
theorem dX7_tune_70 : decode cX7_tune 70 = .ok (.getfield 69, 3) := by decide +kernel
theorem dX7_tune_73 : decode cX7_tune 73 = .ok (.iload_n 3, 1) := by decide +kernel
theorem dX7_tune_74 : decode cX7_tune 74 = .ok (.iaload, 1) := by decide +kernel
theorem dX7_tune_75 : decode cX7_tune 75 = .ok (.imul, 1) := by decide +kernel
theorem dX7_tune_76 : decode cX7_tune 76 = .ok (.iload_n 1, 1) := by decide +kernel
theorem dX7_tune_77 : decode cX7_tune 77 = .ok (.idiv, 1) := by decide +kernel
theorem dX7_tune_78 : decode cX7_tune 78 = .ok (.iadd, 1) := by decide +kernel
theorem dX7_tune_79 : decode cX7_tune 79 = .ok (.goto 4, 3) := by decide +kernel
theorem dX7_tune_82 : decode cX7_tune 82 = .ok (.iconst 1, 1) := by decide +kernel
theorem dX7_tune_83 : decode cX7_tune 83 = .ok (.istore 4, 2) := by decide +kernel
theorem dX7_tune_85 : decode cX7_tune 85 = .ok (.aload_n 0, 1) := by decide +kernel
theorem dX7_tune_86 : decode cX7_tune 86 = .ok (.getfield 10, 3) := by decide +kernel
theorem dX7_tune_89 : decode cX7_tune 89 = .ok (.getfield 103, 3) := by decide +kernel
theorem dX7_tune_92 : decode cX7_tune 92 = .ok (.iload_n 3, 1) := by decide +kernel
theorem dX7_tune_93 : decode cX7_tune 93 = .ok (.iaload, 1) := by decide +kernel
theorem dX7_tune_94 : decode cX7_tune 94 = .ok (.iload 4, 2) := by decide +kernel
theorem dX7_tune_96 : decode cX7_tune 96 = .ok (.if_icmp .eq 17, 3) := by decide +kernel
theorem dX7_tune_99 : decode cX7_tune 99 = .ok (.aload_n 0, 1) := by decide +kernel
theorem dX7_tune_100 : decode cX7_tune 100 = .ok (.getfield 10, 3) := by decide +kernel
theorem dX7_tune_103 : decode cX7_tune 103 = .ok (.getfield 103, 3) := by decide +kernel
theorem dX7_tune_106 : decode cX7_tune 106 = .ok (.iload_n 3, 1) := by decide +kernel
theorem dX7_tune_107 : decode cX7_tune 107 = .ok (.iload 4, 2) := by decide +kernel
theorem dX7_tune_109 : decode cX7_tune 109 = .ok (.iastore, 1) := by decide +kernel
theorem dX7_tune_110 : decode cX7_tune 110 = .ok (.iinc 2 1, 3) := by decide +kernel
theorem dX7_tune_113 : decode cX7_tune 113 = .ok (.iinc 3 1, 3) := by decide +kernel
theorem dX7_tune_116 : decode cX7_tune 116 = .ok (.goto (-65), 3) := by decide +kernel
theorem dX7_tune_119 : decode cX7_tune 119 = .ok (.iload_n 2, 1) := by decide +kernel
theorem dX7_tune_120 : decode cX7_tune 120 = .ok (.ireturn, 1) := by decide +kernel
set_option maxRecDepth 20000 in
theorem ggX7_shrink_X3_record : GoodIn wsX7_shrink wsX3_record := goodIn_r _ [8, 9, 10, 11, 12, 13, 7, 14, 15, 16, 17, 18, 19, 20, 21, 22, 23, 24, 25, 26, 27, 28, 29, 30, 31, 142, 143, 134, 135, 136, 137, 138, 139, 140, 141] (by decide +kernel) (by decide +kernel)
set_option maxRecDepth 20000 in
theorem gX7_shrink_X3_record : GoodIn wsX7_shrink (wsV RX7 80 RX3 yX3_record wsX3_record) := goodIn_app (goodIn_of _ (by decide +kernel)) ggX7_shrink_X3_record
set_option maxRecDepth 20000 in
theorem ggX7_shrink_X7_findLeast : GoodIn wsX7_shrink wsX7_findLeast := goodIn_r _ [36, 2, 3, 37, 38, 39, 40, 41, 35, 42, 43, 44, 45, 46, 47, 48, 49, 50, 51, 52, 53, 54, 55, 56, 57, 58, 59, 60, 23, 24, 25, 61, 62, 63, 64, 65, 66, 67, 68, 69, 70, 71, 72, 73, 18, 74, 31, 75, 76, 77, 78, 79, 80, 81, 20, 21, 82, 83, 84, 85, 86, 87, 88, 89, 90, 91, 92, 93, 94, 95, 96, 97, 98, 99, 100, 101, 102, 103, 104, 105, 106, 107, 108, 109, 110, 111, 112, 113, 114, 115, 116, 117, 122, 123, 124, 125, 126, 127, 128, 129, 130, 131, 132, 133, 134, 135, 136, 137, 138, 139, 140, 141, 144, 145, 146, 147, 148, 149, 150, 151, 152, 153, 154, 155] (by decide +kernel) (by decide +kernel)
set_option maxRecDepth 20000 in
theorem gX7_shrink_X7_findLeast : GoodIn wsX7_shrink (wsV RX7 149 RX7 yX7_findLeast wsX7_findLeast) := goodIn_app (goodIn_of _ (by decide +kernel)) ggX7_shrink_X7_findLeast
set_option maxRecDepth 20000 in
theorem ggX7_shrink_X2_removePiece : GoodIn wsX7_shrink wsX2_removePiece := goodIn_r _ [121, 20, 21, 22, 23, 24, 25, 26, 27, 134, 135, 136, 137, 138, 139, 140, 141] (by decide +kernel) (by decide +kernel)
set_option maxRecDepth 20000 in
theorem gX7_shrink_X2_removePiece : GoodIn wsX7_shrink (wsV RX7 106 RX2 yX2_removePiece wsX2_removePiece) := goodIn_app (goodIn_of _ (by decide +kernel)) ggX7_shrink_X2_removePiece
theorem dX7_shrink_0 : decode cX7_shrink 0 = .ok (.iload_n 1, 1) := by decide +kernel
theorem dX7_shrink_1 : decode cX7_shrink 1 = .ok (.ifCond .lt 9, 3) := by decide +kernel
theorem dX7_shrink_4 : decode cX7_shrink 4 = .ok (.iload_n 1, 1) := by decide +kernel
theorem dX7_shrink_5 : decode cX7_shrink 5 = .ok (.bipush 16, 2) := by decide +kernel
theorem dX7_shrink_7 : decode cX7_shrink 7 = .ok (.if_icmp .le 6, 3) := by decide +kernel
theorem dX7_shrink_10 : decode cX7_shrink 10 = .ok (.bipush (-2), 2) := by decide +kernel
theorem dX7_shrink_12 : decode cX7_shrink 12 = .ok (.ireturn, 1) := by decide +kernel
theorem dX7_shrink_13 : decode cX7_shrink 13 = .ok (.aload_n 0, 1) := by decide +kernel
theorem dX7_shrink_14 : decode cX7_shrink 14 = .ok (.getfield 30, 3) := by decide +kernel
theorem dX7_shrink_17 : decode cX7_shrink 17 = .ok (.aload_n 0, 1) := by decide +kernel
theorem dX7_shrink_18 : decode cX7_shrink 18 = .ok (.getfield 10, 3) := by decide +kernel
theorem dX7_shrink_21 : decode cX7_shrink 21 = .ok (.invokevirtual 80, 3) := by decide +kernel
theorem dX7_shrink_24 : decode cX7_shrink 24 = .ok (.aload_n 0, 1) := by decide +kernel
theorem dX7_shrink_25 : decode cX7_shrink 25 = .ok (.getfield 10, 3) := by decide +kernel
theorem dX7_shrink_28 : decode cX7_shrink 28 = .ok (.getfield 96, 3) := by decide +kernel
theorem dX7_shrink_31 : decode cX7_shrink 31 = .ok (.istore_n 2, 1) := by decide +kernel
theorem dX7_shrink_32 : decode cX7_shrink 32 = .ok (.iload_n 2, 1) := by decide +kernel
theorem dX7_shrink_33 : decode cX7_shrink 33 = .ok (.istore_n 3, 1) := by decide +kernel
theorem dX7_shrink_34 : decode cX7_shrink 34 = .ok (.iload_n 3, 1) := by decide +kernel
theorem dX7_shrink_35 : decode cX7_shrink 35 = .ok (.iload_n 1, 1) := by decide +kernel
theorem dX7_shrink_36 : decode cX7_shrink 36 = .ok (.if_icmp .le 20, 3) := by decide +kernel
theorem dX7_shrink_39 : decode cX7_shrink 39 = .ok (.aload_n 0, 1) := by decide +kernel
theorem dX7_shrink_40 : decode cX7_shrink 40 = .ok (.getfield 10, 3) := by decide +kernel
theorem dX7_shrink_43 : decode cX7_shrink 43 = .ok (.aload_n 0, 1) := by decide +kernel
theorem dX7_shrink_44 : decode cX7_shrink 44 = .ok (.invokevirtual 149, 3) := by decide +kernel
theorem dX7_shrink_47 : decode cX7_shrink 47 = .ok (.invokevirtual 106, 3) := by decide +kernel
theorem dX7_shrink_50 : decode cX7_shrink 50 = .ok (.iinc 3 (-1), 3) := by decide +kernel
theorem dX7_shrink_53 : decode cX7_shrink 53 = .ok (.goto (-19), 3) := by decide +kernel
theorem dX7_shrink_56 : decode cX7_shrink 56 = .ok (.iload_n 2, 1) := by decide +kernel
theorem dX7_shrink_57 : decode cX7_shrink 57 = .ok (.aload_n 0, 1) := by decide +kernel
theorem dX7_shrink_58 : decode cX7_shrink 58 = .ok (.getfield 10, 3) := by decide +kernel
theorem dX7_shrink_61 : decode cX7_shrink 61 = .ok (.getfield 96, 3) := by decide +kernel
theorem dX7_shrink_64 : decode cX7_shrink 64 = .ok (.isub, 1) := by decide +kernel
theorem dX7_shrink_65 : decode cX7_shrink 65 = .ok (.ireturn, 1) := by decide +kernel
set_option maxRecDepth 20000 in
theorem ggX7_ofPiece_X7_isPiece : GoodIn wsX7_ofPiece wsX7_isPiece := goodIn_r _ [12, 1, 13, 150, 151, 152, 153, 154, 155, 156, 157, 158, 159, 160, 161, 162, 163, 164, 165, 166, 167, 168, 169] (by decide +kernel) (by decide +kernel)
set_option maxRecDepth 20000 in
theorem gX7_ofPiece_X7_isPiece : GoodIn wsX7_ofPiece (wsV RX7 99 RX7 yX7_isPiece wsX7_isPiece) := goodIn_app (goodIn_of _ (by decide +kernel)) ggX7_ofPiece_X7_isPiece
set_option maxRecDepth 20000 in
theorem ggX7_ofPiece_X7_letterOfText : GoodIn wsX7_ofPiece wsX7_letterOfText := goodIn_r _ [16] (by decide +kernel) (by decide +kernel)
set_option maxRecDepth 20000 in
theorem gX7_ofPiece_X7_letterOfText : GoodIn wsX7_ofPiece (va_wsS RX7 158 yX7_letterOfText wsX7_letterOfText) := goodIn_app (goodIn_of _ (by decide +kernel)) ggX7_ofPiece_X7_letterOfText
set_option maxRecDepth 20000 in
theorem ggX7_ofPiece_X7_timesInBestCuts : GoodIn wsX7_ofPiece wsX7_timesInBestCuts := goodIn_r _ [20, 1, 21, 22, 23, 24, 25, 26, 27, 28, 11, 29, 30, 31, 32, 33, 34, 35, 36, 37, 38, 39, 40, 41, 42, 43, 44, 45, 46, 47, 48, 49, 50, 51, 52, 53, 54, 55, 56, 57, 58, 59, 60, 61, 62, 63, 64, 65, 66, 67, 68, 69, 70, 71, 72, 73, 74, 75, 76, 77, 78, 79, 80, 81, 82, 83, 84, 85, 86, 87, 88, 89, 90, 91, 92, 93, 94, 95, 96, 97, 98, 99, 100, 150, 151, 152, 153, 154, 155, 156, 157, 158, 159, 160, 161, 162, 163, 164, 165, 166, 167, 168, 169, 170, 171, 172, 173, 174, 175, 176, 177, 178, 179, 180, 181] (by decide +kernel) (by decide +kernel)
set_option maxRecDepth 20000 in
theorem gX7_ofPiece_X7_timesInBestCuts : GoodIn wsX7_ofPiece (wsV RX7 162 RX7 yX7_timesInBestCuts wsX7_timesInBestCuts) := goodIn_app (goodIn_of _ (by decide +kernel)) ggX7_ofPiece_X7_timesInBestCuts
set_option maxRecDepth 20000 in
theorem ggX7_ofPiece_X7_loseEach : GoodIn wsX7_ofPiece wsX7_loseEach := goodIn_r _ [104, 5, 1, 21, 30, 13, 22, 25, 105, 106, 107, 108, 31, 32, 33, 34, 35, 36, 37, 38, 39, 40, 41, 42, 43, 44, 45, 46, 47, 48, 49, 50, 51, 52, 53, 54, 55, 56, 57, 58, 59, 60, 61, 62, 63, 64, 65, 66, 67, 68, 69, 70, 71, 72, 73, 74, 75, 76, 77, 78, 79, 80, 81, 82, 83, 84, 85, 86, 87, 88, 89, 90, 91, 92, 93, 94, 95, 96, 97, 98, 99, 100, 109, 110, 111, 112, 150, 151, 152, 153, 154, 155, 156, 157, 158, 159, 160, 161, 162, 163, 164, 165, 166, 167, 168, 169, 178, 179, 180, 181, 170, 171, 172, 173, 174, 175, 176, 177] (by decide +kernel) (by decide +kernel)
set_option maxRecDepth 20000 in
theorem gX7_ofPiece_X7_loseEach : GoodIn wsX7_ofPiece (wsV RX7 165 RX7 yX7_loseEach wsX7_loseEach) := goodIn_app (goodIn_of _ (by decide +kernel)) ggX7_ofPiece_X7_loseEach
set_option maxRecDepth 20000 in
theorem ggX7_ofPiece_X7_costOfAll : GoodIn wsX7_ofPiece wsX7_costOfAll := goodIn_r _ [116, 21, 22, 25, 26, 27, 28, 11, 29, 30, 31, 32, 33, 34, 35, 36, 37, 38, 39, 40, 41, 42, 43, 44, 45, 46, 47, 48, 49, 50, 51, 52, 53, 54, 55, 56, 57, 58, 59, 60, 61, 62, 63, 64, 65, 66, 67, 68, 69, 70, 71, 72, 73, 74, 75, 76, 77, 78, 79, 80, 81, 82, 83, 84, 85, 86, 87, 88, 89, 90, 91, 92, 93, 94, 95, 96, 97, 98, 99, 100, 109, 110, 111, 112, 162, 163, 164, 165, 166, 167, 168, 169, 150, 151, 152, 153, 154, 155, 156, 157, 158, 159, 160, 161, 178, 179, 180, 181, 170, 171, 172, 173, 174, 175, 176, 177] (by decide +kernel) (by decide +kernel)
set_option maxRecDepth 20000 in
theorem gX7_ofPiece_X7_costOfAll : GoodIn wsX7_ofPiece (wsV RX7 168 RX7 yX7_costOfAll wsX7_costOfAll) := goodIn_app (goodIn_of _ (by decide +kernel)) ggX7_ofPiece_X7_costOfAll
set_option maxRecDepth 20000 in
theorem ggX7_ofPiece_X7_bearAll : GoodIn wsX7_ofPiece wsX7_bearAll := goodIn_r _ [120, 7, 1, 21, 30, 121, 13, 25, 105, 106, 107, 108, 31, 32, 33, 34, 35, 36, 37, 38, 39, 40, 41, 42, 43, 44, 45, 46, 47, 48, 49, 50, 51, 52, 53, 54, 55, 56, 57, 58, 59, 60, 61, 62, 63, 64, 65, 66, 67, 68, 122, 123, 124, 125, 126, 127, 128, 129, 130, 131, 132, 133, 134, 135, 84, 85, 86, 87, 88, 89, 90, 136, 137, 138, 139, 140, 141, 142, 143, 144, 145, 146, 147, 148, 149, 150, 151, 152, 153, 154, 155, 156, 157, 158, 159, 160, 161, 162, 163, 164, 165, 166, 167, 168, 169, 178, 179, 180, 181, 182, 183, 184] (by decide +kernel) (by decide +kernel)
set_option maxRecDepth 20000 in
theorem gX7_ofPiece_X7_bearAll : GoodIn wsX7_ofPiece (wsV RX7 140 RX7 yX7_bearAll wsX7_bearAll) := goodIn_app (goodIn_of _ (by decide +kernel)) ggX7_ofPiece_X7_bearAll
theorem dX7_ofPiece_0 : decode cX7_ofPiece 0 = .ok (.aload_n 0, 1) := by decide +kernel
theorem dX7_ofPiece_1 : decode cX7_ofPiece 1 = .ok (.iload_n 1, 1) := by decide +kernel
theorem dX7_ofPiece_2 : decode cX7_ofPiece 2 = .ok (.invokevirtual 99, 3) := by decide +kernel
theorem dX7_ofPiece_5 : decode cX7_ofPiece 5 = .ok (.ifCond .ne 5, 3) := by decide +kernel
theorem dX7_ofPiece_8 : decode cX7_ofPiece 8 = .ok (.iconst (-1), 1) := by decide +kernel
theorem dX7_ofPiece_9 : decode cX7_ofPiece 9 = .ok (.ireturn, 1) := by decide +kernel
theorem dX7_ofPiece_10 : decode cX7_ofPiece 10 = .ok (.iload_n 2, 1) := by decide +kernel
theorem dX7_ofPiece_11 : decode cX7_ofPiece 11 = .ok (.tableswitch 134 0 8 #[49, 59, 69, 69, 69, 69, 94, 100, 123], 49) := by decide +kernel
theorem dX7_ofPiece_60 : decode cX7_ofPiece 60 = .ok (.aload_n 0, 1) := by decide +kernel
theorem dX7_ofPiece_61 : decode cX7_ofPiece 61 = .ok (.getfield 10, 3) := by decide +kernel
theorem dX7_ofPiece_64 : decode cX7_ofPiece 64 = .ok (.getfield 152, 3) := by decide +kernel
theorem dX7_ofPiece_67 : decode cX7_ofPiece 67 = .ok (.iload_n 1, 1) := by decide +kernel
theorem dX7_ofPiece_68 : decode cX7_ofPiece 68 = .ok (.iaload, 1) := by decide +kernel
theorem dX7_ofPiece_69 : decode cX7_ofPiece 69 = .ok (.ireturn, 1) := by decide +kernel
theorem dX7_ofPiece_70 : decode cX7_ofPiece 70 = .ok (.aload_n 0, 1) := by decide +kernel
theorem dX7_ofPiece_71 : decode cX7_ofPiece 71 = .ok (.getfield 10, 3) := by decide +kernel
theorem dX7_ofPiece_74 : decode cX7_ofPiece 74 = .ok (.getfield 103, 3) := by decide +kernel
theorem dX7_ofPiece_77 : decode cX7_ofPiece 77 = .ok (.iload_n 1, 1) := by decide +kernel
theorem dX7_ofPiece_78 : decode cX7_ofPiece 78 = .ok (.iaload, 1) := by decide +kernel
theorem dX7_ofPiece_79 : decode cX7_ofPiece 79 = .ok (.ireturn, 1) := by decide +kernel
theorem dX7_ofPiece_80 : decode cX7_ofPiece 80 = .ok (.aload_n 0, 1) := by decide +kernel
theorem dX7_ofPiece_81 : decode cX7_ofPiece 81 = .ok (.getfield 10, 3) := by decide +kernel
theorem dX7_ofPiece_84 : decode cX7_ofPiece 84 = .ok (.getfield 155, 3) := by decide +kernel
theorem dX7_ofPiece_87 : decode cX7_ofPiece 87 = .ok (.iload_n 1, 1) := by decide +kernel
theorem dX7_ofPiece_88 : decode cX7_ofPiece 88 = .ok (.iaload, 1) := by decide +kernel
theorem dX7_ofPiece_89 : decode cX7_ofPiece 89 = .ok (.aload_n 0, 1) := by decide +kernel
theorem dX7_ofPiece_90 : decode cX7_ofPiece 90 = .ok (.getfield 10, 3) := by decide +kernel
theorem dX7_ofPiece_93 : decode cX7_ofPiece 93 = .ok (.getfield 152, 3) := by decide +kernel
theorem dX7_ofPiece_96 : decode cX7_ofPiece 96 = .ok (.iload_n 1, 1) := by decide +kernel
theorem dX7_ofPiece_97 : decode cX7_ofPiece 97 = .ok (.iaload, 1) := by decide +kernel
theorem dX7_ofPiece_98 : decode cX7_ofPiece 98 = .ok (.iload_n 2, 1) := by decide +kernel
theorem dX7_ofPiece_99 : decode cX7_ofPiece 99 = .ok (.iconst 2, 1) := by decide +kernel
theorem dX7_ofPiece_100 : decode cX7_ofPiece 100 = .ok (.isub, 1) := by decide +kernel
theorem dX7_ofPiece_101 : decode cX7_ofPiece 101 = .ok (.invokestatic 158, 3) := by decide +kernel
theorem dX7_ofPiece_104 : decode cX7_ofPiece 104 = .ok (.ireturn, 1) := by decide +kernel
theorem dX7_ofPiece_105 : decode cX7_ofPiece 105 = .ok (.aload_n 0, 1) := by decide +kernel
theorem dX7_ofPiece_106 : decode cX7_ofPiece 106 = .ok (.iload_n 1, 1) := by decide +kernel
theorem dX7_ofPiece_107 : decode cX7_ofPiece 107 = .ok (.invokevirtual 162, 3) := by decide +kernel
theorem dX7_ofPiece_110 : decode cX7_ofPiece 110 = .ok (.ireturn, 1) := by decide +kernel
theorem dX7_ofPiece_111 : decode cX7_ofPiece 111 = .ok (.aload_n 0, 1) := by decide +kernel
theorem dX7_ofPiece_112 : decode cX7_ofPiece 112 = .ok (.invokevirtual 165, 3) := by decide +kernel
theorem dX7_ofPiece_115 : decode cX7_ofPiece 115 = .ok (.aload_n 0, 1) := by decide +kernel
theorem dX7_ofPiece_116 : decode cX7_ofPiece 116 = .ok (.getfield 73, 3) := by decide +kernel
theorem dX7_ofPiece_119 : decode cX7_ofPiece 119 = .ok (.iload_n 1, 1) := by decide +kernel
theorem dX7_ofPiece_120 : decode cX7_ofPiece 120 = .ok (.iaload, 1) := by decide +kernel
theorem dX7_ofPiece_121 : decode cX7_ofPiece 121 = .ok (.aload_n 0, 1) := by decide +kernel
theorem dX7_ofPiece_122 : decode cX7_ofPiece 122 = .ok (.aload_n 0, 1) := by decide +kernel
theorem dX7_ofPiece_123 : decode cX7_ofPiece 123 = .ok (.getfield 10, 3) := by decide +kernel
theorem dX7_ofPiece_126 : decode cX7_ofPiece 126 = .ok (.invokevirtual 168, 3) := by decide +kernel
theorem dX7_ofPiece_129 : decode cX7_ofPiece 129 = .ok (.isub, 1) := by decide +kernel
theorem dX7_ofPiece_130 : decode cX7_ofPiece 130 = .ok (.ldc 172, 2) := by decide +kernel
theorem dX7_ofPiece_132 : decode cX7_ofPiece 132 = .ok (.iadd, 1) := by decide +kernel
theorem dX7_ofPiece_133 : decode cX7_ofPiece 133 = .ok (.ireturn, 1) := by decide +kernel
theorem dX7_ofPiece_134 : decode cX7_ofPiece 134 = .ok (.aload_n 0, 1) := by decide +kernel
theorem dX7_ofPiece_135 : decode cX7_ofPiece 135 = .ok (.invokevirtual 140, 3) := by decide +kernel
theorem dX7_ofPiece_138 : decode cX7_ofPiece 138 = .ok (.aload_n 0, 1) := by decide +kernel
theorem dX7_ofPiece_139 : decode cX7_ofPiece 139 = .ok (.getfield 69, 3) := by decide +kernel
theorem dX7_ofPiece_142 : decode cX7_ofPiece 142 = .ok (.iload_n 1, 1) := by decide +kernel
theorem dX7_ofPiece_143 : decode cX7_ofPiece 143 = .ok (.iaload, 1) := by decide +kernel
theorem dX7_ofPiece_144 : decode cX7_ofPiece 144 = .ok (.ireturn, 1) := by decide +kernel
theorem dX7_ofPiece_145 : decode cX7_ofPiece 145 = .ok (.bipush (-2), 2) := by decide +kernel
theorem dX7_ofPiece_147 : decode cX7_ofPiece 147 = .ok (.ireturn, 1) := by decide +kernel
set_option maxRecDepth 20000 in
theorem ggX7_ofWord_X7_isWord : GoodIn wsX7_ofWord wsX7_isWord := goodIn_r _ [13, 1, 14, 116, 117, 118, 119, 120, 121, 122, 123, 124, 125, 126, 127, 128, 129, 130, 131, 132, 133, 134, 135] (by decide +kernel) (by decide +kernel)
set_option maxRecDepth 20000 in
theorem gX7_ofWord_X7_isWord : GoodIn wsX7_ofWord (wsV RX7 120 RX7 yX7_isWord wsX7_isWord) := goodIn_app (goodIn_of _ (by decide +kernel)) ggX7_ofWord_X7_isWord
set_option maxRecDepth 20000 in
theorem ggX7_ofWord_X7_cutBest : GoodIn wsX7_ofWord wsX7_cutBest := goodIn_r _ [18, 8, 4, 19, 20, 21, 22, 23, 24, 25, 26, 27, 28, 29, 30, 31, 32, 33, 34, 35, 36, 37, 38, 39, 40, 41, 42, 43, 44, 45, 46, 47, 48, 49, 50, 51, 52, 53, 54, 55, 56, 57, 58, 59, 60, 61, 62, 63, 64, 65, 66, 67, 68, 69, 70, 71, 72, 73, 74, 75, 76, 77, 78, 79, 80, 81, 82, 83, 84, 85, 86, 87, 88, 116, 117, 118, 119, 120, 121, 122, 123, 124, 125, 126, 127, 128, 129, 130, 131, 132, 133, 134, 135, 144, 145, 146, 147, 136, 137, 138, 139, 140, 141, 142, 143] (by decide +kernel) (by decide +kernel)
set_option maxRecDepth 20000 in
theorem gX7_ofWord_X7_cutBest : GoodIn wsX7_ofWord (wsV RX7 173 RX7 yX7_cutBest wsX7_cutBest) := goodIn_app (goodIn_of _ (by decide +kernel)) ggX7_ofWord_X7_cutBest
set_option maxRecDepth 20000 in
theorem ggX7_ofWord_X1_cost : GoodIn wsX7_ofWord wsX1_cost := goodIn_r _ [92, 83, 84, 136, 137, 138, 139, 140, 141, 142, 143] (by decide +kernel) (by decide +kernel)
set_option maxRecDepth 20000 in
theorem gX7_ofWord_X1_cost : GoodIn wsX7_ofWord (wsV RX7 186 RX1 yX1_cost wsX1_cost) := goodIn_app (goodIn_of _ (by decide +kernel)) ggX7_ofWord_X1_cost
set_option maxRecDepth 20000 in
theorem ggX7_ofWord_X0_find : GoodIn wsX7_ofWord wsX0_find := goodIn_r _ [97, 98, 99, 100, 101, 102, 103, 104, 105, 106, 35, 36, 22, 37, 25, 38, 39, 40, 41, 107, 72, 73, 74, 27, 75, 76, 77, 78, 33, 48, 49, 50, 108, 109, 110, 96, 111, 148, 149, 150, 144, 145, 146, 147] (by decide +kernel) (by decide +kernel)
set_option maxRecDepth 20000 in
theorem gX7_ofWord_X0_find : GoodIn wsX7_ofWord (wsV RX7 189 RX0 yX0_find wsX0_find) := goodIn_app (goodIn_of _ (by decide +kernel)) ggX7_ofWord_X0_find
set_option maxRecDepth 20000 in
theorem ggX7_ofWord_X0_cuts : GoodIn wsX7_ofWord wsX0_cuts := goodIn_r _ [115, 101, 148, 149, 150] (by decide +kernel) (by decide +kernel)
set_option maxRecDepth 20000 in
theorem gX7_ofWord_X0_cuts : GoodIn wsX7_ofWord (wsV RX7 193 RX0 yX0_cuts wsX0_cuts) := goodIn_app (goodIn_of _ (by decide +kernel)) ggX7_ofWord_X0_cuts
theorem dX7_ofWord_0 : decode cX7_ofWord 0 = .ok (.aload_n 0, 1) := by decide +kernel
theorem dX7_ofWord_1 : decode cX7_ofWord 1 = .ok (.iload_n 1, 1) := by decide +kernel
theorem dX7_ofWord_2 : decode cX7_ofWord 2 = .ok (.invokevirtual 120, 3) := by decide +kernel
theorem dX7_ofWord_5 : decode cX7_ofWord 5 = .ok (.ifCond .ne 5, 3) := by decide +kernel
theorem dX7_ofWord_8 : decode cX7_ofWord 8 = .ok (.iconst (-1), 1) := by decide +kernel
theorem dX7_ofWord_9 : decode cX7_ofWord 9 = .ok (.ireturn, 1) := by decide +kernel
theorem dX7_ofWord_10 : decode cX7_ofWord 10 = .ok (.aload_n 0, 1) := by decide +kernel
theorem dX7_ofWord_11 : decode cX7_ofWord 11 = .ok (.aload_n 0, 1) := by decide +kernel
theorem dX7_ofWord_12 : decode cX7_ofWord 12 = .ok (.getfield 10, 3) := by decide +kernel
theorem dX7_ofWord_15 : decode cX7_ofWord 15 = .ok (.iload_n 1, 1) := by decide +kernel
theorem dX7_ofWord_16 : decode cX7_ofWord 16 = .ok (.invokevirtual 173, 3) := by decide +kernel
theorem dX7_ofWord_19 : decode cX7_ofWord 19 = .ok (.iload_n 2, 1) := by decide +kernel
theorem dX7_ofWord_20 : decode cX7_ofWord 20 = .ok (.tableswitch 113 0 5 #[40, 50, 60, 68, 76, 94], 40) := by decide +kernel
theorem dX7_ofWord_60 : decode cX7_ofWord 60 = .ok (.aload_n 0, 1) := by decide +kernel
theorem dX7_ofWord_61 : decode cX7_ofWord 61 = .ok (.getfield 10, 3) := by decide +kernel
theorem dX7_ofWord_64 : decode cX7_ofWord 64 = .ok (.getfield 177, 3) := by decide +kernel
theorem dX7_ofWord_67 : decode cX7_ofWord 67 = .ok (.iload_n 1, 1) := by decide +kernel
theorem dX7_ofWord_68 : decode cX7_ofWord 68 = .ok (.iaload, 1) := by decide +kernel
theorem dX7_ofWord_69 : decode cX7_ofWord 69 = .ok (.ireturn, 1) := by decide +kernel
theorem dX7_ofWord_70 : decode cX7_ofWord 70 = .ok (.aload_n 0, 1) := by decide +kernel
theorem dX7_ofWord_71 : decode cX7_ofWord 71 = .ok (.getfield 10, 3) := by decide +kernel
theorem dX7_ofWord_74 : decode cX7_ofWord 74 = .ok (.getfield 123, 3) := by decide +kernel
theorem dX7_ofWord_77 : decode cX7_ofWord 77 = .ok (.iload_n 1, 1) := by decide +kernel
theorem dX7_ofWord_78 : decode cX7_ofWord 78 = .ok (.iaload, 1) := by decide +kernel
theorem dX7_ofWord_79 : decode cX7_ofWord 79 = .ok (.ireturn, 1) := by decide +kernel
theorem dX7_ofWord_80 : decode cX7_ofWord 80 = .ok (.aload_n 0, 1) := by decide +kernel
theorem dX7_ofWord_81 : decode cX7_ofWord 81 = .ok (.getfield 51, 3) := by decide +kernel
theorem dX7_ofWord_84 : decode cX7_ofWord 84 = .ok (.getfield 180, 3) := by decide +kernel
theorem dX7_ofWord_87 : decode cX7_ofWord 87 = .ok (.ireturn, 1) := by decide +kernel
theorem dX7_ofWord_88 : decode cX7_ofWord 88 = .ok (.aload_n 0, 1) := by decide +kernel
theorem dX7_ofWord_89 : decode cX7_ofWord 89 = .ok (.getfield 51, 3) := by decide +kernel
theorem dX7_ofWord_92 : decode cX7_ofWord 92 = .ok (.getfield 183, 3) := by decide +kernel
theorem dX7_ofWord_95 : decode cX7_ofWord 95 = .ok (.ireturn, 1) := by decide +kernel
theorem dX7_ofWord_96 : decode cX7_ofWord 96 = .ok (.aload_n 0, 1) := by decide +kernel
theorem dX7_ofWord_97 : decode cX7_ofWord 97 = .ok (.getfield 51, 3) := by decide +kernel
theorem dX7_ofWord_100 : decode cX7_ofWord 100 = .ok (.invokevirtual 186, 3) := by decide +kernel
theorem dX7_ofWord_103 : decode cX7_ofWord 103 = .ok (.aload_n 0, 1) := by decide +kernel
theorem dX7_ofWord_104 : decode cX7_ofWord 104 = .ok (.getfield 10, 3) := by decide +kernel
theorem dX7_ofWord_107 : decode cX7_ofWord 107 = .ok (.getfield 123, 3) := by decide +kernel
theorem dX7_ofWord_110 : decode cX7_ofWord 110 = .ok (.iload_n 1, 1) := by decide +kernel
theorem dX7_ofWord_111 : decode cX7_ofWord 111 = .ok (.iaload, 1) := by decide +kernel
theorem dX7_ofWord_112 : decode cX7_ofWord 112 = .ok (.imul, 1) := by decide +kernel
theorem dX7_ofWord_113 : decode cX7_ofWord 113 = .ok (.ireturn, 1) := by decide +kernel
theorem dX7_ofWord_114 : decode cX7_ofWord 114 = .ok (.aload_n 0, 1) := by decide +kernel
theorem dX7_ofWord_115 : decode cX7_ofWord 115 = .ok (.getfield 58, 3) := by decide +kernel
theorem dX7_ofWord_118 : decode cX7_ofWord 118 = .ok (.aload_n 0, 1) := by decide +kernel
theorem dX7_ofWord_119 : decode cX7_ofWord 119 = .ok (.getfield 44, 3) := by decide +kernel
theorem dX7_ofWord_122 : decode cX7_ofWord 122 = .ok (.invokevirtual 189, 3) := by decide +kernel
theorem dX7_ofWord_125 : decode cX7_ofWord 125 = .ok (.aload_n 0, 1) := by decide +kernel
theorem dX7_ofWord_126 : decode cX7_ofWord 126 = .ok (.getfield 58, 3) := by decide +kernel
theorem dX7_ofWord_129 : decode cX7_ofWord 129 = .ok (.invokevirtual 193, 3) := by decide +kernel
theorem dX7_ofWord_132 : decode cX7_ofWord 132 = .ok (.ireturn, 1) := by decide +kernel
theorem dX7_ofWord_133 : decode cX7_ofWord 133 = .ok (.bipush (-2), 2) := by decide +kernel
theorem dX7_ofWord_135 : decode cX7_ofWord 135 = .ok (.ireturn, 1) := by decide +kernel
set_option maxRecDepth 20000 in
theorem ggX7_letter_X7_isWord : GoodIn wsX7_letter wsX7_isWord := goodIn_r _ [7, 1, 8, 15, 16, 17, 18, 19, 20, 21, 22, 23, 24, 25, 26, 27, 28, 29, 30, 31, 32, 33, 34] (by decide +kernel) (by decide +kernel)
set_option maxRecDepth 20000 in
theorem gX7_letter_X7_isWord : GoodIn wsX7_letter (wsV RX7 120 RX7 yX7_isWord wsX7_isWord) := goodIn_app (goodIn_of _ (by decide +kernel)) ggX7_letter_X7_isWord
set_option maxRecDepth 20000 in
theorem ggX7_letter_X2_letterAt : GoodIn wsX7_letter wsX2_letterAt := goodIn_r _ [13, 14, 27, 28, 29, 30, 31, 32, 33, 34] (by decide +kernel) (by decide +kernel)
set_option maxRecDepth 20000 in
theorem gX7_letter_X2_letterAt : GoodIn wsX7_letter (wsV RX7 196 RX2 yX2_letterAt wsX2_letterAt) := goodIn_app (goodIn_of _ (by decide +kernel)) ggX7_letter_X2_letterAt
theorem dX7_letter_0 : decode cX7_letter 0 = .ok (.aload_n 0, 1) := by decide +kernel
theorem dX7_letter_1 : decode cX7_letter 1 = .ok (.iload_n 1, 1) := by decide +kernel
theorem dX7_letter_2 : decode cX7_letter 2 = .ok (.invokevirtual 120, 3) := by decide +kernel
theorem dX7_letter_5 : decode cX7_letter 5 = .ok (.ifCond .eq 20, 3) := by decide +kernel
theorem dX7_letter_8 : decode cX7_letter 8 = .ok (.iload_n 2, 1) := by decide +kernel
theorem dX7_letter_9 : decode cX7_letter 9 = .ok (.ifCond .lt 16, 3) := by decide +kernel
theorem dX7_letter_12 : decode cX7_letter 12 = .ok (.iload_n 2, 1) := by decide +kernel
theorem dX7_letter_13 : decode cX7_letter 13 = .ok (.aload_n 0, 1) := by decide +kernel
theorem dX7_letter_14 : decode cX7_letter 14 = .ok (.getfield 10, 3) := by decide +kernel
theorem dX7_letter_17 : decode cX7_letter 17 = .ok (.getfield 177, 3) := by decide +kernel
theorem dX7_letter_20 : decode cX7_letter 20 = .ok (.iload_n 1, 1) := by decide +kernel
theorem dX7_letter_21 : decode cX7_letter 21 = .ok (.iaload, 1) := by decide +kernel
theorem dX7_letter_22 : decode cX7_letter 22 = .ok (.if_icmp .lt 5, 3) := by decide +kernel
theorem dX7_letter_25 : decode cX7_letter 25 = .ok (.iconst (-1), 1) := by decide +kernel
theorem dX7_letter_26 : decode cX7_letter 26 = .ok (.ireturn, 1) := by decide +kernel
theorem dX7_letter_27 : decode cX7_letter 27 = .ok (.aload_n 0, 1) := by decide +kernel
theorem dX7_letter_28 : decode cX7_letter 28 = .ok (.getfield 10, 3) := by decide +kernel
theorem dX7_letter_31 : decode cX7_letter 31 = .ok (.iload_n 1, 1) := by decide +kernel
theorem dX7_letter_32 : decode cX7_letter 32 = .ok (.iload_n 2, 1) := by decide +kernel
theorem dX7_letter_33 : decode cX7_letter 33 = .ok (.invokevirtual 196, 3) := by decide +kernel
theorem dX7_letter_36 : decode cX7_letter 36 = .ok (.ireturn, 1) := by decide +kernel
set_option maxRecDepth 20000 in
theorem ggX7_product_X7_isWord : GoodIn wsX7_product wsX7_isWord := goodIn_r _ [11, 3, 12, 114, 115, 116, 117, 118, 119, 120, 121, 122, 123, 124, 125, 126, 127, 128, 129, 130, 131, 132, 133] (by decide +kernel) (by decide +kernel)
set_option maxRecDepth 20000 in
theorem gX7_product_X7_isWord : GoodIn wsX7_product (wsV RX7 120 RX7 yX7_isWord wsX7_isWord) := goodIn_app (goodIn_of _ (by decide +kernel)) ggX7_product_X7_isWord
set_option maxRecDepth 20000 in
theorem ggX7_product_X4_read : GoodIn wsX7_product wsX4_read := goodIn_r _ [17, 18, 19, 20, 21, 22, 23, 24, 25, 26, 27, 28, 29, 30, 16, 31, 32, 33, 34, 35, 36, 37, 38, 39, 40, 41, 42, 43, 44, 45, 46, 47, 48, 49, 50, 126, 127, 128, 129, 130, 131, 132, 133, 134, 135, 136, 137] (by decide +kernel) (by decide +kernel)
set_option maxRecDepth 20000 in
theorem gX7_product_X4_read : GoodIn wsX7_product (wsV RX7 201 RX4 yX4_read wsX4_read) := goodIn_app (goodIn_of _ (by decide +kernel)) ggX7_product_X4_read
set_option maxRecDepth 20000 in
theorem ggX7_product_X0_find : GoodIn wsX7_product wsX0_find := goodIn_r _ [55, 56, 57, 58, 59, 60, 61, 62, 63, 64, 29, 30, 16, 31, 19, 32, 33, 34, 35, 65, 66, 67, 68, 21, 69, 70, 71, 72, 27, 42, 43, 44, 73, 74, 75, 54, 76, 138, 139, 140, 134, 135, 136, 137] (by decide +kernel) (by decide +kernel)
set_option maxRecDepth 20000 in
theorem gX7_product_X0_find : GoodIn wsX7_product (wsV RX7 189 RX0 yX0_find wsX0_find) := goodIn_app (goodIn_of _ (by decide +kernel)) ggX7_product_X0_find
set_option maxRecDepth 20000 in
theorem ggX7_product_X0_total : GoodIn wsX7_product wsX0_total := goodIn_r _ [80, 58, 138, 139, 140] (by decide +kernel) (by decide +kernel)
set_option maxRecDepth 20000 in
theorem gX7_product_X0_total : GoodIn wsX7_product (wsV RX7 204 RX0 yX0_total wsX0_total) := goodIn_app (goodIn_of _ (by decide +kernel)) ggX7_product_X0_total
set_option maxRecDepth 20000 in
theorem ggX7_product_X7_cutBest : GoodIn wsX7_product wsX7_cutBest := goodIn_r _ [84, 2, 5, 13, 14, 15, 16, 17, 18, 19, 20, 21, 22, 23, 24, 25, 26, 27, 28, 29, 30, 31, 32, 33, 34, 35, 36, 37, 38, 39, 40, 41, 42, 43, 44, 45, 46, 47, 48, 49, 50, 85, 86, 87, 88, 89, 90, 91, 92, 93, 94, 95, 96, 97, 98, 99, 66, 67, 68, 69, 70, 71, 72, 100, 101, 102, 103, 104, 105, 106, 107, 108, 109, 114, 115, 116, 117, 118, 119, 120, 121, 122, 123, 124, 125, 126, 127, 128, 129, 130, 131, 132, 133, 134, 135, 136, 137, 141, 142, 143, 144, 145, 146, 147, 148] (by decide +kernel) (by decide +kernel)
set_option maxRecDepth 20000 in
theorem gX7_product_X7_cutBest : GoodIn wsX7_product (wsV RX7 173 RX7 yX7_cutBest wsX7_cutBest) := goodIn_app (goodIn_of _ (by decide +kernel)) ggX7_product_X7_cutBest
set_option maxRecDepth 20000 in
theorem ggX7_product_X1_greatestProduct : GoodIn wsX7_product wsX1_greatestProduct := goodIn_r _ [113, 90, 141, 142, 143, 144, 145, 146, 147, 148] (by decide +kernel) (by decide +kernel)
set_option maxRecDepth 20000 in
theorem gX7_product_X1_greatestProduct : GoodIn wsX7_product (wsV RX7 208 RX1 yX1_greatestProduct wsX1_greatestProduct) := goodIn_app (goodIn_of _ (by decide +kernel)) ggX7_product_X1_greatestProduct
theorem dX7_product_0 : decode cX7_product 0 = .ok (.aload_n 0, 1) := by decide +kernel
theorem dX7_product_1 : decode cX7_product 1 = .ok (.iload_n 1, 1) := by decide +kernel
theorem dX7_product_2 : decode cX7_product 2 = .ok (.invokevirtual 120, 3) := by decide +kernel
theorem dX7_product_5 : decode cX7_product 5 = .ok (.ifCond .ne 7, 3) := by decide +kernel
theorem dX7_product_8 : decode cX7_product 8 = .ok (.ldc2_w 199, 3) := by decide +kernel
theorem dX7_product_11 : decode cX7_product 11 = .ok (.lreturn, 1) := by decide +kernel
theorem dX7_product_12 : decode cX7_product 12 = .ok (.iload_n 2, 1) := by decide +kernel
theorem dX7_product_13 : decode cX7_product 13 = .ok (.ifCond .ne 34, 3) := by decide +kernel
theorem dX7_product_16 : decode cX7_product 16 = .ok (.aload_n 0, 1) := by decide +kernel
theorem dX7_product_17 : decode cX7_product 17 = .ok (.getfield 44, 3) := by decide +kernel
theorem dX7_product_20 : decode cX7_product 20 = .ok (.aload_n 0, 1) := by decide +kernel
theorem dX7_product_21 : decode cX7_product 21 = .ok (.getfield 10, 3) := by decide +kernel
theorem dX7_product_24 : decode cX7_product 24 = .ok (.iload_n 1, 1) := by decide +kernel
theorem dX7_product_25 : decode cX7_product 25 = .ok (.invokevirtual 201, 3) := by decide +kernel
theorem dX7_product_28 : decode cX7_product 28 = .ok (.aload_n 0, 1) := by decide +kernel
theorem dX7_product_29 : decode cX7_product 29 = .ok (.getfield 58, 3) := by decide +kernel
theorem dX7_product_32 : decode cX7_product 32 = .ok (.aload_n 0, 1) := by decide +kernel
theorem dX7_product_33 : decode cX7_product 33 = .ok (.getfield 44, 3) := by decide +kernel
theorem dX7_product_36 : decode cX7_product 36 = .ok (.invokevirtual 189, 3) := by decide +kernel
theorem dX7_product_39 : decode cX7_product 39 = .ok (.aload_n 0, 1) := by decide +kernel
theorem dX7_product_40 : decode cX7_product 40 = .ok (.getfield 58, 3) := by decide +kernel
theorem dX7_product_43 : decode cX7_product 43 = .ok (.invokevirtual 204, 3) := by decide +kernel
theorem dX7_product_46 : decode cX7_product 46 = .ok (.lreturn, 1) := by decide +kernel
theorem dX7_product_47 : decode cX7_product 47 = .ok (.iload_n 2, 1) := by decide +kernel
theorem dX7_product_48 : decode cX7_product 48 = .ok (.iconst 1, 1) := by decide +kernel
theorem dX7_product_49 : decode cX7_product 49 = .ok (.if_icmp .ne 20, 3) := by decide +kernel
theorem dX7_product_52 : decode cX7_product 52 = .ok (.aload_n 0, 1) := by decide +kernel
theorem dX7_product_53 : decode cX7_product 53 = .ok (.aload_n 0, 1) := by decide +kernel
theorem dX7_product_54 : decode cX7_product 54 = .ok (.getfield 10, 3) := by decide +kernel
theorem dX7_product_57 : decode cX7_product 57 = .ok (.iload_n 1, 1) := by decide +kernel
theorem dX7_product_58 : decode cX7_product 58 = .ok (.invokevirtual 173, 3) := by decide +kernel
theorem dX7_product_61 : decode cX7_product 61 = .ok (.aload_n 0, 1) := by decide +kernel
theorem dX7_product_62 : decode cX7_product 62 = .ok (.getfield 51, 3) := by decide +kernel
theorem dX7_product_65 : decode cX7_product 65 = .ok (.invokevirtual 208, 3) := by decide +kernel
theorem dX7_product_68 : decode cX7_product 68 = .ok (.lreturn, 1) := by decide +kernel
theorem dX7_product_69 : decode cX7_product 69 = .ok (.ldc2_w 211, 3) := by decide +kernel
theorem dX7_product_72 : decode cX7_product 72 = .ok (.lreturn, 1) := by decide +kernel
set_option maxRecDepth 20000 in
theorem ggX7_part_X7_isWord : GoodIn wsX7_part wsX7_isWord := goodIn_r _ [11, 1, 12, 88, 89, 90, 91, 92, 93, 94, 95, 96, 97, 98, 99, 108, 109, 110, 111, 112, 113, 114, 115] (by decide +kernel) (by decide +kernel)
set_option maxRecDepth 20000 in
theorem gX7_part_X7_isWord : GoodIn wsX7_part (wsV RX7 120 RX7 yX7_isWord wsX7_isWord) := goodIn_app (goodIn_of _ (by decide +kernel)) ggX7_part_X7_isWord
set_option maxRecDepth 20000 in
theorem ggX7_part_X7_cutBest : GoodIn wsX7_part wsX7_cutBest := goodIn_r _ [16, 17, 2, 18, 19, 20, 21, 22, 23, 24, 25, 26, 27, 28, 29, 30, 31, 32, 33, 34, 35, 36, 37, 38, 39, 40, 41, 42, 43, 44, 45, 46, 47, 48, 49, 50, 51, 52, 53, 54, 55, 56, 57, 58, 59, 60, 61, 62, 63, 64, 65, 66, 67, 68, 69, 70, 71, 72, 73, 74, 75, 76, 77, 78, 79, 80, 81, 82, 83, 84, 85, 86, 87, 88, 89, 90, 91, 92, 93, 94, 95, 96, 97, 98, 99, 108, 109, 110, 111, 112, 113, 114, 115, 116, 117, 118, 119, 100, 101, 102, 103, 104, 105, 106, 107] (by decide +kernel) (by decide +kernel)
set_option maxRecDepth 20000 in
theorem gX7_part_X7_cutBest : GoodIn wsX7_part (wsV RX7 173 RX7 yX7_cutBest wsX7_cutBest) := goodIn_app (goodIn_of _ (by decide +kernel)) ggX7_part_X7_cutBest
theorem dX7_part_0 : decode cX7_part 0 = .ok (.aload_n 0, 1) := by decide +kernel
theorem dX7_part_1 : decode cX7_part 1 = .ok (.iload_n 1, 1) := by decide +kernel
theorem dX7_part_2 : decode cX7_part 2 = .ok (.invokevirtual 120, 3) := by decide +kernel
theorem dX7_part_5 : decode cX7_part 5 = .ok (.ifCond .ne 5, 3) := by decide +kernel
theorem dX7_part_8 : decode cX7_part 8 = .ok (.iconst (-1), 1) := by decide +kernel
theorem dX7_part_9 : decode cX7_part 9 = .ok (.ireturn, 1) := by decide +kernel
theorem dX7_part_10 : decode cX7_part 10 = .ok (.aload_n 0, 1) := by decide +kernel
theorem dX7_part_11 : decode cX7_part 11 = .ok (.aload_n 0, 1) := by decide +kernel
theorem dX7_part_12 : decode cX7_part 12 = .ok (.getfield 10, 3) := by decide +kernel
theorem dX7_part_15 : decode cX7_part 15 = .ok (.iload_n 1, 1) := by decide +kernel
theorem dX7_part_16 : decode cX7_part 16 = .ok (.invokevirtual 173, 3) := by decide +kernel
theorem dX7_part_19 : decode cX7_part 19 = .ok (.iload_n 2, 1) := by decide +kernel
theorem dX7_part_20 : decode cX7_part 20 = .ok (.ifCond .lt 14, 3) := by decide +kernel
theorem dX7_part_23 : decode cX7_part 23 = .ok (.iload_n 2, 1) := by decide +kernel
theorem dX7_part_24 : decode cX7_part 24 = .ok (.aload_n 0, 1) := by decide +kernel
theorem dX7_part_25 : decode cX7_part 25 = .ok (.getfield 51, 3) := by decide +kernel
theorem dX7_part_28 : decode cX7_part 28 = .ok (.getfield 180, 3) := by decide +kernel
theorem dX7_part_31 : decode cX7_part 31 = .ok (.if_icmp .lt 5, 3) := by decide +kernel
theorem dX7_part_34 : decode cX7_part 34 = .ok (.iconst (-1), 1) := by decide +kernel
theorem dX7_part_35 : decode cX7_part 35 = .ok (.ireturn, 1) := by decide +kernel
theorem dX7_part_36 : decode cX7_part 36 = .ok (.iload_n 3, 1) := by decide +kernel
theorem dX7_part_37 : decode cX7_part 37 = .ok (.tableswitch 75 0 2 #[27, 55, 65], 27) := by decide +kernel
theorem dX7_part_64 : decode cX7_part 64 = .ok (.aload_n 0, 1) := by decide +kernel
theorem dX7_part_65 : decode cX7_part 65 = .ok (.getfield 51, 3) := by decide +kernel
theorem dX7_part_68 : decode cX7_part 68 = .ok (.getfield 213, 3) := by decide +kernel
theorem dX7_part_71 : decode cX7_part 71 = .ok (.iload_n 2, 1) := by decide +kernel
theorem dX7_part_72 : decode cX7_part 72 = .ok (.iaload, 1) := by decide +kernel
theorem dX7_part_73 : decode cX7_part 73 = .ok (.iconst (-1), 1) := by decide +kernel
theorem dX7_part_74 : decode cX7_part 74 = .ok (.if_icmp .ne 8, 3) := by decide +kernel
theorem dX7_part_77 : decode cX7_part 77 = .ok (.bipush (-6), 2) := by decide +kernel
theorem dX7_part_79 : decode cX7_part 79 = .ok (.goto 12, 3) := by decide +kernel
theorem dX7_part_82 : decode cX7_part 82 = .ok (.aload_n 0, 1) := by decide +kernel
theorem dX7_part_83 : decode cX7_part 83 = .ok (.getfield 51, 3) := by decide +kernel
theorem dX7_part_86 : decode cX7_part 86 = .ok (.getfield 213, 3) := by decide +kernel
theorem dX7_part_89 : decode cX7_part 89 = .ok (.iload_n 2, 1) := by decide +kernel
theorem dX7_part_90 : decode cX7_part 90 = .ok (.iaload, 1) := by decide +kernel
theorem dX7_part_91 : decode cX7_part 91 = .ok (.ireturn, 1) := by decide +kernel
theorem dX7_part_92 : decode cX7_part 92 = .ok (.aload_n 0, 1) := by decide +kernel
theorem dX7_part_93 : decode cX7_part 93 = .ok (.getfield 51, 3) := by decide +kernel
theorem dX7_part_96 : decode cX7_part 96 = .ok (.getfield 216, 3) := by decide +kernel
theorem dX7_part_99 : decode cX7_part 99 = .ok (.iload_n 2, 1) := by decide +kernel
theorem dX7_part_100 : decode cX7_part 100 = .ok (.iaload, 1) := by decide +kernel
theorem dX7_part_101 : decode cX7_part 101 = .ok (.ireturn, 1) := by decide +kernel
theorem dX7_part_102 : decode cX7_part 102 = .ok (.aload_n 0, 1) := by decide +kernel
theorem dX7_part_103 : decode cX7_part 103 = .ok (.getfield 51, 3) := by decide +kernel
theorem dX7_part_106 : decode cX7_part 106 = .ok (.getfield 219, 3) := by decide +kernel
theorem dX7_part_109 : decode cX7_part 109 = .ok (.iload_n 2, 1) := by decide +kernel
theorem dX7_part_110 : decode cX7_part 110 = .ok (.iaload, 1) := by decide +kernel
theorem dX7_part_111 : decode cX7_part 111 = .ok (.ireturn, 1) := by decide +kernel
theorem dX7_part_112 : decode cX7_part 112 = .ok (.bipush (-2), 2) := by decide +kernel
theorem dX7_part_114 : decode cX7_part 114 = .ok (.ireturn, 1) := by decide +kernel
set_option maxRecDepth 20000 in
theorem ggX7_share_X7_isWord : GoodIn wsX7_share wsX7_isWord := goodIn_r _ [8, 2, 9, 89, 90, 91, 92, 93, 94, 95, 96, 97, 98, 99, 100, 101, 102, 103, 104, 105, 106, 107, 108] (by decide +kernel) (by decide +kernel)
set_option maxRecDepth 20000 in
theorem gX7_share_X7_isWord : GoodIn wsX7_share (wsV RX7 120 RX7 yX7_isWord wsX7_isWord) := goodIn_app (goodIn_of _ (by decide +kernel)) ggX7_share_X7_isWord
set_option maxRecDepth 20000 in
theorem ggX7_share_X7_isPiece : GoodIn wsX7_share wsX7_isPiece := goodIn_r _ [13, 2, 14, 89, 90, 91, 92, 93, 94, 95, 96, 97, 98, 99, 100, 101, 102, 103, 104, 105, 106, 107, 108] (by decide +kernel) (by decide +kernel)
set_option maxRecDepth 20000 in
theorem gX7_share_X7_isPiece : GoodIn wsX7_share (wsV RX7 99 RX7 yX7_isPiece wsX7_isPiece) := goodIn_app (goodIn_of _ (by decide +kernel)) ggX7_share_X7_isPiece
set_option maxRecDepth 20000 in
theorem ggX7_share_X4_read : GoodIn wsX7_share wsX4_read := goodIn_r _ [19, 20, 21, 22, 23, 24, 25, 26, 27, 28, 29, 30, 31, 32, 18, 33, 34, 35, 36, 37, 38, 39, 40, 41, 42, 43, 44, 45, 46, 47, 48, 49, 50, 51, 52, 101, 102, 103, 104, 105, 106, 107, 108, 109, 110, 111, 112] (by decide +kernel) (by decide +kernel)
set_option maxRecDepth 20000 in
theorem gX7_share_X4_read : GoodIn wsX7_share (wsV RX7 201 RX4 yX4_read wsX4_read) := goodIn_app (goodIn_of _ (by decide +kernel)) ggX7_share_X4_read
set_option maxRecDepth 20000 in
theorem ggX7_share_X0_find : GoodIn wsX7_share wsX0_find := goodIn_r _ [57, 58, 59, 60, 61, 62, 63, 64, 65, 66, 31, 32, 18, 33, 21, 34, 35, 36, 37, 67, 68, 69, 70, 23, 71, 72, 73, 74, 29, 44, 45, 46, 75, 76, 77, 56, 78, 113, 114, 115, 109, 110, 111, 112] (by decide +kernel) (by decide +kernel)
set_option maxRecDepth 20000 in
theorem gX7_share_X0_find : GoodIn wsX7_share (wsV RX7 189 RX0 yX0_find wsX0_find) := goodIn_app (goodIn_of _ (by decide +kernel)) ggX7_share_X0_find
set_option maxRecDepth 20000 in
theorem ggX7_share_X0_shareOf : GoodIn wsX7_share wsX0_shareOf := goodIn_r _ [82, 59, 58, 60, 83, 66, 31, 32, 18, 33, 21, 34, 35, 36, 37, 84, 72, 73, 74, 29, 44, 45, 46, 67, 68, 69, 70, 23, 71, 85, 86, 87, 56, 88, 109, 110, 111, 112, 113, 114, 115] (by decide +kernel) (by decide +kernel)
set_option maxRecDepth 20000 in
theorem gX7_share_X0_shareOf : GoodIn wsX7_share (wsV RX7 222 RX0 yX0_shareOf wsX0_shareOf) := goodIn_app (goodIn_of _ (by decide +kernel)) ggX7_share_X0_shareOf
theorem dX7_share_0 : decode cX7_share 0 = .ok (.aload_n 0, 1) := by decide +kernel
theorem dX7_share_1 : decode cX7_share 1 = .ok (.iload_n 1, 1) := by decide +kernel
theorem dX7_share_2 : decode cX7_share 2 = .ok (.invokevirtual 120, 3) := by decide +kernel
theorem dX7_share_5 : decode cX7_share 5 = .ok (.ifCond .eq 11, 3) := by decide +kernel
theorem dX7_share_8 : decode cX7_share 8 = .ok (.aload_n 0, 1) := by decide +kernel
theorem dX7_share_9 : decode cX7_share 9 = .ok (.iload_n 2, 1) := by decide +kernel
theorem dX7_share_10 : decode cX7_share 10 = .ok (.invokevirtual 99, 3) := by decide +kernel
theorem dX7_share_13 : decode cX7_share 13 = .ok (.ifCond .ne 5, 3) := by decide +kernel
theorem dX7_share_16 : decode cX7_share 16 = .ok (.iconst (-1), 1) := by decide +kernel
theorem dX7_share_17 : decode cX7_share 17 = .ok (.ireturn, 1) := by decide +kernel
theorem dX7_share_18 : decode cX7_share 18 = .ok (.aload_n 0, 1) := by decide +kernel
theorem dX7_share_19 : decode cX7_share 19 = .ok (.getfield 44, 3) := by decide +kernel
theorem dX7_share_22 : decode cX7_share 22 = .ok (.aload_n 0, 1) := by decide +kernel
theorem dX7_share_23 : decode cX7_share 23 = .ok (.getfield 10, 3) := by decide +kernel
theorem dX7_share_26 : decode cX7_share 26 = .ok (.iload_n 1, 1) := by decide +kernel
theorem dX7_share_27 : decode cX7_share 27 = .ok (.invokevirtual 201, 3) := by decide +kernel
theorem dX7_share_30 : decode cX7_share 30 = .ok (.aload_n 0, 1) := by decide +kernel
theorem dX7_share_31 : decode cX7_share 31 = .ok (.getfield 58, 3) := by decide +kernel
theorem dX7_share_34 : decode cX7_share 34 = .ok (.aload_n 0, 1) := by decide +kernel
theorem dX7_share_35 : decode cX7_share 35 = .ok (.getfield 44, 3) := by decide +kernel
theorem dX7_share_38 : decode cX7_share 38 = .ok (.invokevirtual 189, 3) := by decide +kernel
theorem dX7_share_41 : decode cX7_share 41 = .ok (.aload_n 0, 1) := by decide +kernel
theorem dX7_share_42 : decode cX7_share 42 = .ok (.getfield 58, 3) := by decide +kernel
theorem dX7_share_45 : decode cX7_share 45 = .ok (.aload_n 0, 1) := by decide +kernel
theorem dX7_share_46 : decode cX7_share 46 = .ok (.getfield 44, 3) := by decide +kernel
theorem dX7_share_49 : decode cX7_share 49 = .ok (.iload_n 2, 1) := by decide +kernel
theorem dX7_share_50 : decode cX7_share 50 = .ok (.invokevirtual 222, 3) := by decide +kernel
theorem dX7_share_53 : decode cX7_share 53 = .ok (.ireturn, 1) := by decide +kernel
set_option maxRecDepth 20000 in
theorem ggX7_count_X7_costOfAll : GoodIn wsX7_count wsX7_costOfAll := goodIn_r _ [12, 3, 13, 14, 15, 16, 17, 11, 18, 19, 20, 21, 22, 23, 24, 25, 26, 27, 28, 29, 30, 31, 32, 33, 34, 35, 36, 37, 38, 39, 40, 41, 42, 43, 44, 45, 46, 47, 48, 49, 50, 51, 52, 53, 54, 55, 56, 57, 58, 59, 60, 61, 62, 63, 64, 65, 66, 67, 68, 69, 70, 71, 72, 73, 74, 75, 76, 77, 78, 79, 80, 81, 82, 83, 84, 85, 86, 87, 88, 89, 90, 91, 92, 93, 116, 117, 118, 119, 120, 121, 122, 123, 104, 105, 106, 107, 108, 109, 110, 111, 112, 113, 114, 115, 128, 129, 130, 131, 132, 133, 134, 135, 136, 137, 138, 139] (by decide +kernel) (by decide +kernel)
set_option maxRecDepth 20000 in
theorem gX7_count_X7_costOfAll : GoodIn wsX7_count (wsV RX7 168 RX7 yX7_costOfAll wsX7_costOfAll) := goodIn_app (goodIn_of _ (by decide +kernel)) ggX7_count_X7_costOfAll
set_option maxRecDepth 20000 in
theorem ggX7_count_X7_lettersOfAll : GoodIn wsX7_count wsX7_lettersOfAll := goodIn_r _ [97, 1, 3, 98, 14, 104, 105, 106, 107, 108, 109, 110, 111, 112, 113, 114, 115, 116, 117, 118, 119, 120, 121, 122, 123] (by decide +kernel) (by decide +kernel)
set_option maxRecDepth 20000 in
theorem gX7_count_X7_lettersOfAll : GoodIn wsX7_count (wsV RX7 226 RX7 yX7_lettersOfAll wsX7_lettersOfAll) := goodIn_app (goodIn_of _ (by decide +kernel)) ggX7_count_X7_lettersOfAll
set_option maxRecDepth 20000 in
theorem ggX7_count_X7_partsOfAll : GoodIn wsX7_count wsX7_partsOfAll := goodIn_r _ [102, 1, 3, 13, 103, 14, 15, 16, 17, 11, 18, 19, 20, 21, 22, 23, 24, 25, 26, 27, 28, 29, 30, 31, 32, 33, 34, 35, 36, 37, 38, 39, 40, 41, 42, 43, 44, 45, 46, 47, 48, 49, 50, 51, 52, 53, 54, 55, 56, 57, 58, 59, 60, 61, 62, 63, 64, 65, 66, 67, 68, 69, 70, 71, 72, 73, 74, 75, 76, 77, 78, 79, 80, 81, 82, 83, 84, 85, 86, 87, 88, 89, 104, 105, 106, 107, 108, 109, 110, 111, 112, 113, 114, 115, 116, 117, 118, 119, 120, 121, 122, 123, 132, 133, 134, 135, 136, 137, 138, 139, 128, 129, 130, 131] (by decide +kernel) (by decide +kernel)
set_option maxRecDepth 20000 in
theorem gX7_count_X7_partsOfAll : GoodIn wsX7_count (wsV RX7 229 RX7 yX7_partsOfAll wsX7_partsOfAll) := goodIn_app (goodIn_of _ (by decide +kernel)) ggX7_count_X7_partsOfAll
theorem dX7_count_0 : decode cX7_count 0 = .ok (.iload_n 1, 1) := by decide +kernel
theorem dX7_count_1 : decode cX7_count 1 = .ok (.tableswitch 112 0 7 #[47, 55, 63, 72, 77, 82, 96, 104], 47) := by decide +kernel
theorem dX7_count_48 : decode cX7_count 48 = .ok (.aload_n 0, 1) := by decide +kernel
theorem dX7_count_49 : decode cX7_count 49 = .ok (.getfield 10, 3) := by decide +kernel
theorem dX7_count_52 : decode cX7_count 52 = .ok (.getfield 96, 3) := by decide +kernel
theorem dX7_count_55 : decode cX7_count 55 = .ok (.ireturn, 1) := by decide +kernel
theorem dX7_count_56 : decode cX7_count 56 = .ok (.aload_n 0, 1) := by decide +kernel
theorem dX7_count_57 : decode cX7_count 57 = .ok (.getfield 10, 3) := by decide +kernel
theorem dX7_count_60 : decode cX7_count 60 = .ok (.getfield 113, 3) := by decide +kernel
theorem dX7_count_63 : decode cX7_count 63 = .ok (.ireturn, 1) := by decide +kernel
theorem dX7_count_64 : decode cX7_count 64 = .ok (.aload_n 0, 1) := by decide +kernel
theorem dX7_count_65 : decode cX7_count 65 = .ok (.aload_n 0, 1) := by decide +kernel
theorem dX7_count_66 : decode cX7_count 66 = .ok (.getfield 10, 3) := by decide +kernel
theorem dX7_count_69 : decode cX7_count 69 = .ok (.invokevirtual 168, 3) := by decide +kernel
theorem dX7_count_72 : decode cX7_count 72 = .ok (.ireturn, 1) := by decide +kernel
theorem dX7_count_73 : decode cX7_count 73 = .ok (.aload_n 0, 1) := by decide +kernel
theorem dX7_count_74 : decode cX7_count 74 = .ok (.invokevirtual 226, 3) := by decide +kernel
theorem dX7_count_77 : decode cX7_count 77 = .ok (.ireturn, 1) := by decide +kernel
theorem dX7_count_78 : decode cX7_count 78 = .ok (.aload_n 0, 1) := by decide +kernel
theorem dX7_count_79 : decode cX7_count 79 = .ok (.invokevirtual 229, 3) := by decide +kernel
theorem dX7_count_82 : decode cX7_count 82 = .ok (.ireturn, 1) := by decide +kernel
theorem dX7_count_83 : decode cX7_count 83 = .ok (.aload_n 0, 1) := by decide +kernel
theorem dX7_count_84 : decode cX7_count 84 = .ok (.aload_n 0, 1) := by decide +kernel
theorem dX7_count_85 : decode cX7_count 85 = .ok (.getfield 10, 3) := by decide +kernel
theorem dX7_count_88 : decode cX7_count 88 = .ok (.invokevirtual 168, 3) := by decide +kernel
theorem dX7_count_91 : decode cX7_count 91 = .ok (.aload_n 0, 1) := by decide +kernel
theorem dX7_count_92 : decode cX7_count 92 = .ok (.invokevirtual 229, 3) := by decide +kernel
theorem dX7_count_95 : decode cX7_count 95 = .ok (.isub, 1) := by decide +kernel
theorem dX7_count_96 : decode cX7_count 96 = .ok (.ireturn, 1) := by decide +kernel
theorem dX7_count_97 : decode cX7_count 97 = .ok (.aload_n 0, 1) := by decide +kernel
theorem dX7_count_98 : decode cX7_count 98 = .ok (.getfield 37, 3) := by decide +kernel
theorem dX7_count_101 : decode cX7_count 101 = .ok (.getfield 88, 3) := by decide +kernel
theorem dX7_count_104 : decode cX7_count 104 = .ok (.ireturn, 1) := by decide +kernel
theorem dX7_count_105 : decode cX7_count 105 = .ok (.aload_n 0, 1) := by decide +kernel
theorem dX7_count_106 : decode cX7_count 106 = .ok (.getfield 30, 3) := by decide +kernel
theorem dX7_count_109 : decode cX7_count 109 = .ok (.getfield 232, 3) := by decide +kernel
theorem dX7_count_112 : decode cX7_count 112 = .ok (.ireturn, 1) := by decide +kernel
theorem dX7_count_113 : decode cX7_count 113 = .ok (.bipush (-2), 2) := by decide +kernel
theorem dX7_count_115 : decode cX7_count 115 = .ok (.ireturn, 1) := by decide +kernel
set_option maxRecDepth 20000 in
theorem ggX7_costWith_X7_newPieceError : GoodIn wsX7_costWith wsX7_newPieceError := goodIn_r _ [9, 3, 2, 10, 11, 12, 13, 14, 15, 16, 17, 18, 19, 20, 21, 22, 23, 24, 25, 26, 27, 28, 29, 30, 31, 32, 33, 34, 35, 36, 131, 132, 133, 134, 135, 136, 137, 138, 139, 140, 141, 142, 145, 146, 147, 148, 149, 150, 151, 152, 143, 144] (by decide +kernel) (by decide +kernel)
set_option maxRecDepth 20000 in
theorem gX7_costWith_X7_newPieceError : GoodIn wsX7_costWith (wsV RX7 76 RX7 yX7_newPieceError wsX7_newPieceError) := goodIn_app (goodIn_of _ (by decide +kernel)) ggX7_costWith_X7_newPieceError
set_option maxRecDepth 20000 in
theorem ggX7_costWith_X2_copyFrom : GoodIn wsX7_costWith wsX2_copyFrom := goodIn_r _ [40, 35, 36, 41, 42, 43, 44, 45, 46, 47, 48, 49, 50, 145, 146, 147, 148, 149, 150, 151, 152] (by decide +kernel) (by decide +kernel)
set_option maxRecDepth 20000 in
theorem gX7_costWith_X2_copyFrom : GoodIn wsX7_costWith (wsV RX7 235 RX2 yX2_copyFrom wsX2_copyFrom) := goodIn_app (goodIn_of _ (by decide +kernel)) ggX7_costWith_X2_copyFrom
set_option maxRecDepth 20000 in
theorem ggX7_costWith_X6_text : GoodIn wsX7_costWith wsX6_text := goodIn_r _ [29, 16, 21, 22, 23, 14, 24, 25, 143, 144] (by decide +kernel) (by decide +kernel)
set_option maxRecDepth 20000 in
theorem gX7_costWith_X6_text : GoodIn wsX7_costWith (wsV RX7 84 RX6 yX6_text wsX6_text) := goodIn_app (goodIn_of _ (by decide +kernel)) ggX7_costWith_X6_text
set_option maxRecDepth 20000 in
theorem ggX7_costWith_X2_addPiece : GoodIn wsX7_costWith wsX2_addPiece := goodIn_r _ [54, 35, 36, 45, 46, 145, 146, 147, 148, 149, 150, 151, 152] (by decide +kernel) (by decide +kernel)
set_option maxRecDepth 20000 in
theorem gX7_costWith_X2_addPiece : GoodIn wsX7_costWith (wsV RX7 92 RX2 yX2_addPiece wsX2_addPiece) := goodIn_app (goodIn_of _ (by decide +kernel)) ggX7_costWith_X2_addPiece
set_option maxRecDepth 20000 in
theorem ggX7_costWith_X7_costOfAll : GoodIn wsX7_costWith wsX7_costOfAll := goodIn_r _ [58, 59, 60, 61, 62, 63, 64, 8, 65, 66, 67, 68, 69, 70, 71, 72, 73, 74, 75, 76, 42, 43, 44, 77, 78, 79, 80, 81, 82, 83, 84, 85, 86, 87, 88, 89, 33, 90, 50, 91, 92, 93, 94, 31, 32, 34, 35, 36, 95, 96, 97, 98, 99, 100, 101, 102, 103, 104, 105, 106, 107, 108, 109, 110, 111, 112, 113, 114, 115, 116, 117, 118, 119, 120, 121, 122, 123, 124, 125, 126, 127, 128, 129, 130, 145, 146, 147, 148, 149, 150, 151, 152, 131, 132, 133, 134, 135, 136, 137, 138, 139, 140, 141, 142, 153, 154, 155, 156, 157, 158, 159, 160, 161, 162, 163, 164] (by decide +kernel) (by decide +kernel)
set_option maxRecDepth 20000 in
theorem gX7_costWith_X7_costOfAll : GoodIn wsX7_costWith (wsV RX7 168 RX7 yX7_costOfAll wsX7_costOfAll) := goodIn_app (goodIn_of _ (by decide +kernel)) ggX7_costWith_X7_costOfAll
theorem dX7_costWith_0 : decode cX7_costWith 0 = .ok (.aload_n 0, 1) := by decide +kernel
theorem dX7_costWith_1 : decode cX7_costWith 1 = .ok (.iload_n 1, 1) := by decide +kernel
theorem dX7_costWith_2 : decode cX7_costWith 2 = .ok (.invokevirtual 76, 3) := by decide +kernel
theorem dX7_costWith_5 : decode cX7_costWith 5 = .ok (.istore_n 2, 1) := by decide +kernel
theorem dX7_costWith_6 : decode cX7_costWith 6 = .ok (.iload_n 2, 1) := by decide +kernel
theorem dX7_costWith_7 : decode cX7_costWith 7 = .ok (.ifCond .eq 5, 3) := by decide +kernel
theorem dX7_costWith_10 : decode cX7_costWith 10 = .ok (.iload_n 2, 1) := by decide +kernel
theorem dX7_costWith_11 : decode cX7_costWith 11 = .ok (.ireturn, 1) := by decide +kernel
theorem dX7_costWith_12 : decode cX7_costWith 12 = .ok (.aload_n 0, 1) := by decide +kernel
theorem dX7_costWith_13 : decode cX7_costWith 13 = .ok (.getfield 16, 3) := by decide +kernel
theorem dX7_costWith_16 : decode cX7_costWith 16 = .ok (.aload_n 0, 1) := by decide +kernel
theorem dX7_costWith_17 : decode cX7_costWith 17 = .ok (.getfield 10, 3) := by decide +kernel
theorem dX7_costWith_20 : decode cX7_costWith 20 = .ok (.invokevirtual 235, 3) := by decide +kernel
theorem dX7_costWith_23 : decode cX7_costWith 23 = .ok (.aload_n 0, 1) := by decide +kernel
theorem dX7_costWith_24 : decode cX7_costWith 24 = .ok (.getfield 16, 3) := by decide +kernel
theorem dX7_costWith_27 : decode cX7_costWith 27 = .ok (.aload_n 0, 1) := by decide +kernel
theorem dX7_costWith_28 : decode cX7_costWith 28 = .ok (.getfield 37, 3) := by decide +kernel
theorem dX7_costWith_31 : decode cX7_costWith 31 = .ok (.invokevirtual 84, 3) := by decide +kernel
theorem dX7_costWith_34 : decode cX7_costWith 34 = .ok (.aload_n 0, 1) := by decide +kernel
theorem dX7_costWith_35 : decode cX7_costWith 35 = .ok (.getfield 37, 3) := by decide +kernel
theorem dX7_costWith_38 : decode cX7_costWith 38 = .ok (.getfield 88, 3) := by decide +kernel
theorem dX7_costWith_41 : decode cX7_costWith 41 = .ok (.iload_n 1, 1) := by decide +kernel
theorem dX7_costWith_42 : decode cX7_costWith 42 = .ok (.invokevirtual 92, 3) := by decide +kernel
theorem dX7_costWith_45 : decode cX7_costWith 45 = .ok (.aload_n 0, 1) := by decide +kernel
theorem dX7_costWith_46 : decode cX7_costWith 46 = .ok (.aload_n 0, 1) := by decide +kernel
theorem dX7_costWith_47 : decode cX7_costWith 47 = .ok (.getfield 16, 3) := by decide +kernel
theorem dX7_costWith_50 : decode cX7_costWith 50 = .ok (.invokevirtual 168, 3) := by decide +kernel
theorem dX7_costWith_53 : decode cX7_costWith 53 = .ok (.ireturn, 1) := by decide +kernel
set_option maxRecDepth 20000 in
theorem ggX7_growing_X7_findGrowing : GoodIn wsX7_growing wsX7_findGrowing := goodIn_r _ [10, 1, 11, 12, 13, 14, 15, 16, 17, 18, 19, 20, 21, 22, 23, 24, 25, 26, 9, 27, 28, 29, 30, 31, 32, 33, 34, 35, 36, 37, 38, 39, 40, 41, 42, 43, 44, 45, 46, 47, 48, 49, 50, 51, 52, 53, 54, 55, 56, 57, 58, 59, 60, 61, 62, 63, 64, 65, 66, 67, 68, 69, 70, 71, 72, 73, 74, 75, 76, 77, 78, 79, 80, 81, 82, 83, 84, 85, 86, 87, 88, 89, 90, 91, 92, 93, 94, 95, 96, 97, 98, 99, 100, 101, 102, 103, 104, 105, 106, 107, 108, 109, 110, 111, 112, 113, 114, 115, 116, 117, 118, 119, 123, 124, 125, 126, 127, 128, 129, 130, 131, 132, 133, 134, 135, 136, 137, 138, 139, 140, 141, 142, 143, 144, 145, 146, 147, 148, 149, 150, 151, 152, 153, 154, 155, 156, 157, 158, 159] (by decide +kernel) (by decide +kernel)
set_option maxRecDepth 20000 in
theorem gX7_growing_X7_findGrowing : GoodIn wsX7_growing (wsV RX7 129 RX7 yX7_findGrowing wsX7_findGrowing) := goodIn_app (goodIn_of _ (by decide +kernel)) ggX7_growing_X7_findGrowing
set_option maxRecDepth 20000 in
theorem ggX7_growing_X7_letterOfText : GoodIn wsX7_growing wsX7_letterOfText := goodIn_r _ [122] (by decide +kernel) (by decide +kernel)
set_option maxRecDepth 20000 in
theorem gX7_growing_X7_letterOfText : GoodIn wsX7_growing (va_wsS RX7 158 yX7_letterOfText wsX7_letterOfText) := goodIn_app (goodIn_of _ (by decide +kernel)) ggX7_growing_X7_letterOfText
theorem dX7_growing_0 : decode cX7_growing 0 = .ok (.iload_n 1, 1) := by decide +kernel
theorem dX7_growing_1 : decode cX7_growing 1 = .ok (.ifCond .lt 9, 3) := by decide +kernel
theorem dX7_growing_4 : decode cX7_growing 4 = .ok (.iload_n 1, 1) := by decide +kernel
theorem dX7_growing_5 : decode cX7_growing 5 = .ok (.bipush 6, 2) := by decide +kernel
theorem dX7_growing_7 : decode cX7_growing 7 = .ok (.if_icmp .le 6, 3) := by decide +kernel
theorem dX7_growing_10 : decode cX7_growing 10 = .ok (.bipush (-2), 2) := by decide +kernel
theorem dX7_growing_12 : decode cX7_growing 12 = .ok (.ireturn, 1) := by decide +kernel
theorem dX7_growing_13 : decode cX7_growing 13 = .ok (.aload_n 0, 1) := by decide +kernel
theorem dX7_growing_14 : decode cX7_growing 14 = .ok (.invokevirtual 129, 3) := by decide +kernel
theorem dX7_growing_17 : decode cX7_growing 17 = .ok (.istore_n 2, 1) := by decide +kernel
theorem dX7_growing_18 : decode cX7_growing 18 = .ok (.iload_n 2, 1) := by decide +kernel
theorem dX7_growing_19 : decode cX7_growing 19 = .ok (.ifCond .ge 6, 3) := by decide +kernel
theorem dX7_growing_22 : decode cX7_growing 22 = .ok (.bipush (-6), 2) := by decide +kernel
theorem dX7_growing_24 : decode cX7_growing 24 = .ok (.ireturn, 1) := by decide +kernel
theorem dX7_growing_25 : decode cX7_growing 25 = .ok (.iload_n 1, 1) := by decide +kernel
theorem dX7_growing_26 : decode cX7_growing 26 = .ok (.tableswitch 56 0 2 #[26, 36, 46], 26) := by decide +kernel
theorem dX7_growing_52 : decode cX7_growing 52 = .ok (.aload_n 0, 1) := by decide +kernel
theorem dX7_growing_53 : decode cX7_growing 53 = .ok (.getfield 65, 3) := by decide +kernel
theorem dX7_growing_56 : decode cX7_growing 56 = .ok (.getfield 134, 3) := by decide +kernel
theorem dX7_growing_59 : decode cX7_growing 59 = .ok (.iload_n 2, 1) := by decide +kernel
theorem dX7_growing_60 : decode cX7_growing 60 = .ok (.iaload, 1) := by decide +kernel
theorem dX7_growing_61 : decode cX7_growing 61 = .ok (.ireturn, 1) := by decide +kernel
theorem dX7_growing_62 : decode cX7_growing 62 = .ok (.aload_n 0, 1) := by decide +kernel
theorem dX7_growing_63 : decode cX7_growing 63 = .ok (.getfield 65, 3) := by decide +kernel
theorem dX7_growing_66 : decode cX7_growing 66 = .ok (.getfield 238, 3) := by decide +kernel
theorem dX7_growing_69 : decode cX7_growing 69 = .ok (.iload_n 2, 1) := by decide +kernel
theorem dX7_growing_70 : decode cX7_growing 70 = .ok (.iaload, 1) := by decide +kernel
theorem dX7_growing_71 : decode cX7_growing 71 = .ok (.ireturn, 1) := by decide +kernel
theorem dX7_growing_72 : decode cX7_growing 72 = .ok (.aload_n 0, 1) := by decide +kernel
theorem dX7_growing_73 : decode cX7_growing 73 = .ok (.getfield 65, 3) := by decide +kernel
theorem dX7_growing_76 : decode cX7_growing 76 = .ok (.getfield 137, 3) := by decide +kernel
theorem dX7_growing_79 : decode cX7_growing 79 = .ok (.iload_n 2, 1) := by decide +kernel
theorem dX7_growing_80 : decode cX7_growing 80 = .ok (.iaload, 1) := by decide +kernel
theorem dX7_growing_81 : decode cX7_growing 81 = .ok (.ireturn, 1) := by decide +kernel
theorem dX7_growing_82 : decode cX7_growing 82 = .ok (.aload_n 0, 1) := by decide +kernel
theorem dX7_growing_83 : decode cX7_growing 83 = .ok (.getfield 65, 3) := by decide +kernel
theorem dX7_growing_86 : decode cX7_growing 86 = .ok (.getfield 132, 3) := by decide +kernel
theorem dX7_growing_89 : decode cX7_growing 89 = .ok (.iload_n 2, 1) := by decide +kernel
theorem dX7_growing_90 : decode cX7_growing 90 = .ok (.iaload, 1) := by decide +kernel
theorem dX7_growing_91 : decode cX7_growing 91 = .ok (.aload_n 0, 1) := by decide +kernel
theorem dX7_growing_92 : decode cX7_growing 92 = .ok (.getfield 65, 3) := by decide +kernel
theorem dX7_growing_95 : decode cX7_growing 95 = .ok (.getfield 134, 3) := by decide +kernel
theorem dX7_growing_98 : decode cX7_growing 98 = .ok (.iload_n 2, 1) := by decide +kernel
theorem dX7_growing_99 : decode cX7_growing 99 = .ok (.iaload, 1) := by decide +kernel
theorem dX7_growing_100 : decode cX7_growing 100 = .ok (.iload_n 1, 1) := by decide +kernel
theorem dX7_growing_101 : decode cX7_growing 101 = .ok (.iconst 3, 1) := by decide +kernel
theorem dX7_growing_102 : decode cX7_growing 102 = .ok (.isub, 1) := by decide +kernel
theorem dX7_growing_103 : decode cX7_growing 103 = .ok (.invokestatic 158, 3) := by decide +kernel
theorem dX7_growing_106 : decode cX7_growing 106 = .ok (.ireturn, 1) := by decide +kernel
set_option maxRecDepth 20000 in
theorem ggX7_least_X7_findLeast : GoodIn wsX7_least wsX7_findLeast := goodIn_r _ [5, 6, 7, 8, 9, 10, 11, 12, 4, 13, 14, 15, 16, 17, 18, 19, 20, 21, 22, 23, 24, 25, 26, 27, 28, 29, 30, 31, 32, 33, 34, 35, 36, 37, 38, 39, 40, 41, 42, 43, 44, 45, 46, 47, 48, 49, 50, 51, 52, 53, 54, 55, 56, 57, 58, 59, 60, 61, 62, 63, 64, 65, 66, 67, 68, 69, 70, 71, 72, 73, 74, 75, 76, 77, 78, 79, 80, 81, 82, 83, 84, 85, 86, 87, 88, 89, 90, 91, 92, 93, 94, 95, 96, 97, 98, 99, 100, 101, 102, 103, 104, 105, 106, 107, 108, 109, 110, 111, 112, 113, 114, 115, 116, 117, 118, 119, 120, 121, 122, 123, 124, 125, 126, 127] (by decide +kernel) (by decide +kernel)
set_option maxRecDepth 20000 in
theorem gX7_least_X7_findLeast : GoodIn wsX7_least (wsV RX7 149 RX7 yX7_findLeast wsX7_findLeast) := goodIn_app (goodIn_of _ (by decide +kernel)) ggX7_least_X7_findLeast
theorem dX7_least_0 : decode cX7_least 0 = .ok (.aload_n 0, 1) := by decide +kernel
theorem dX7_least_1 : decode cX7_least 1 = .ok (.invokevirtual 149, 3) := by decide +kernel
theorem dX7_least_4 : decode cX7_least 4 = .ok (.istore_n 1, 1) := by decide +kernel
theorem dX7_least_5 : decode cX7_least 5 = .ok (.iload_n 1, 1) := by decide +kernel
theorem dX7_least_6 : decode cX7_least 6 = .ok (.iconst (-1), 1) := by decide +kernel
theorem dX7_least_7 : decode cX7_least 7 = .ok (.if_icmp .ne 8, 3) := by decide +kernel
theorem dX7_least_10 : decode cX7_least 10 = .ok (.bipush (-6), 2) := by decide +kernel
theorem dX7_least_12 : decode cX7_least 12 = .ok (.goto 4, 3) := by decide +kernel
theorem dX7_least_15 : decode cX7_least 15 = .ok (.iload_n 1, 1) := by decide +kernel
theorem dX7_least_16 : decode cX7_least 16 = .ok (.ireturn, 1) := by decide +kernel
set_option maxRecDepth 20000 in
theorem ggX7_put_X7_charactersIn : GoodIn wsX7_put wsX7_charactersIn := goodIn_r _ [6, 7] (by decide +kernel) (by decide +kernel)
set_option maxRecDepth 20000 in
theorem gX7_put_X7_charactersIn : GoodIn wsX7_put (va_wsS RX7 241 yX7_charactersIn wsX7_charactersIn) := goodIn_app (goodIn_of _ (by decide +kernel)) ggX7_put_X7_charactersIn
set_option maxRecDepth 20000 in
theorem ggX7_put_X6_append : GoodIn wsX7_put wsX6_append := goodIn_r _ [12, 13, 14, 27, 28] (by decide +kernel) (by decide +kernel)
set_option maxRecDepth 20000 in
theorem gX7_put_X6_append : GoodIn wsX7_put (wsV RX7 245 RX6 yX6_append wsX6_append) := goodIn_app (goodIn_of _ (by decide +kernel)) ggX7_put_X6_append
theorem dX7_put_0 : decode cX7_put 0 = .ok (.lload_n 1, 1) := by decide +kernel
theorem dX7_put_1 : decode cX7_put 1 = .ok (.invokestatic 241, 3) := by decide +kernel
theorem dX7_put_4 : decode cX7_put 4 = .ok (.istore_n 3, 1) := by decide +kernel
theorem dX7_put_5 : decode cX7_put 5 = .ok (.iload_n 3, 1) := by decide +kernel
theorem dX7_put_6 : decode cX7_put 6 = .ok (.ifCond .ne 6, 3) := by decide +kernel
theorem dX7_put_9 : decode cX7_put 9 = .ok (.bipush (-2), 2) := by decide +kernel
theorem dX7_put_11 : decode cX7_put 11 = .ok (.ireturn, 1) := by decide +kernel
theorem dX7_put_12 : decode cX7_put 12 = .ok (.aload_n 0, 1) := by decide +kernel
theorem dX7_put_13 : decode cX7_put 13 = .ok (.getfield 37, 3) := by decide +kernel
theorem dX7_put_16 : decode cX7_put 16 = .ok (.getfield 88, 3) := by decide +kernel
theorem dX7_put_19 : decode cX7_put 19 = .ok (.iload_n 3, 1) := by decide +kernel
theorem dX7_put_20 : decode cX7_put 20 = .ok (.iadd, 1) := by decide +kernel
theorem dX7_put_21 : decode cX7_put 21 = .ok (.bipush 16, 2) := by decide +kernel
theorem dX7_put_23 : decode cX7_put 23 = .ok (.if_icmp .le 6, 3) := by decide +kernel
theorem dX7_put_26 : decode cX7_put 26 = .ok (.bipush (-4), 2) := by decide +kernel
theorem dX7_put_28 : decode cX7_put 28 = .ok (.ireturn, 1) := by decide +kernel
theorem dX7_put_29 : decode cX7_put 29 = .ok (.iload_n 3, 1) := by decide +kernel
theorem dX7_put_30 : decode cX7_put 30 = .ok (.iconst 1, 1) := by decide +kernel
theorem dX7_put_31 : decode cX7_put 31 = .ok (.isub, 1) := by decide +kernel
theorem dX7_put_32 : decode cX7_put 32 = .ok (.istore 4, 2) := by decide +kernel
theorem dX7_put_34 : decode cX7_put 34 = .ok (.iload 4, 2) := by decide +kernel
theorem dX7_put_36 : decode cX7_put 36 = .ok (.ifCond .lt 28, 3) := by decide +kernel
theorem dX7_put_39 : decode cX7_put 39 = .ok (.aload_n 0, 1) := by decide +kernel
theorem dX7_put_40 : decode cX7_put 40 = .ok (.getfield 37, 3) := by decide +kernel
theorem dX7_put_43 : decode cX7_put 43 = .ok (.lload_n 1, 1) := by decide +kernel
theorem dX7_put_44 : decode cX7_put 44 = .ok (.bipush 8, 2) := by decide +kernel
theorem dX7_put_46 : decode cX7_put 46 = .ok (.iload 4, 2) := by decide +kernel
theorem dX7_put_48 : decode cX7_put 48 = .ok (.imul, 1) := by decide +kernel
theorem dX7_put_49 : decode cX7_put 49 = .ok (.lushr, 1) := by decide +kernel
theorem dX7_put_50 : decode cX7_put 50 = .ok (.l2i, 1) := by decide +kernel
theorem dX7_put_51 : decode cX7_put 51 = .ok (.sipush 255, 3) := by decide +kernel
end
section
theorem dX7_put_54 : decode cX7_put 54 = .ok (.iand, 1) := by decide +kernel
theorem dX7_put_55 : decode cX7_put 55 = .ok (.invokevirtual 245, 3) := by decide +kernel
theorem dX7_put_58 : decode cX7_put 58 = .ok (.iinc 4 (-1), 3) := by decide +kernel
theorem dX7_put_61 : decode cX7_put 61 = .ok (.goto (-27), 3) := by decide +kernel
theorem dX7_put_64 : decode cX7_put 64 = .ok (.aload_n 0, 1) := by decide +kernel
theorem dX7_put_65 : decode cX7_put 65 = .ok (.getfield 37, 3) := by decide +kernel
theorem dX7_put_68 : decode cX7_put 68 = .ok (.getfield 88, 3) := by decide +kernel
theorem dX7_put_71 : decode cX7_put 71 = .ok (.ireturn, 1) := by decide +kernel
theorem dX7_wipe_0 : decode cX7_wipe 0 = .ok (.aload_n 0, 1) := by decide +kernel
theorem dX7_wipe_1 : decode cX7_wipe 1 = .ok (.getfield 37, 3) := by decide +kernel
theorem dX7_wipe_4 : decode cX7_wipe 4 = .ok (.getfield 88, 3) := by decide +kernel
theorem dX7_wipe_7 : decode cX7_wipe 7 = .ok (.istore_n 1, 1) := by decide +kernel
theorem dX7_wipe_8 : decode cX7_wipe 8 = .ok (.aload_n 0, 1) := by decide +kernel
theorem dX7_wipe_9 : decode cX7_wipe 9 = .ok (.getfield 37, 3) := by decide +kernel
theorem dX7_wipe_12 : decode cX7_wipe 12 = .ok (.iconst 0, 1) := by decide +kernel
theorem dX7_wipe_13 : decode cX7_wipe 13 = .ok (.putfield 88, 3) := by decide +kernel
theorem dX7_wipe_16 : decode cX7_wipe 16 = .ok (.iload_n 1, 1) := by decide +kernel
theorem dX7_wipe_17 : decode cX7_wipe 17 = .ok (.ireturn, 1) := by decide +kernel
set_option maxRecDepth 20000 in
theorem ggX7_fault_X6_firstNoLetter : GoodIn wsX7_fault wsX6_firstNoLetter := goodIn_r _ [7, 8, 9, 10, 11, 6, 12, 13, 26, 27] (by decide +kernel) (by decide +kernel)
set_option maxRecDepth 20000 in
theorem gX7_fault_X6_firstNoLetter : GoodIn wsX7_fault (wsV RX7 248 RX6 yX6_firstNoLetter wsX6_firstNoLetter) := goodIn_app (goodIn_of _ (by decide +kernel)) ggX7_fault_X6_firstNoLetter
theorem dX7_fault_0 : decode cX7_fault 0 = .ok (.aload_n 0, 1) := by decide +kernel
theorem dX7_fault_1 : decode cX7_fault 1 = .ok (.getfield 37, 3) := by decide +kernel
theorem dX7_fault_4 : decode cX7_fault 4 = .ok (.invokevirtual 248, 3) := by decide +kernel
theorem dX7_fault_7 : decode cX7_fault 7 = .ok (.istore_n 1, 1) := by decide +kernel
theorem dX7_fault_8 : decode cX7_fault 8 = .ok (.iload_n 1, 1) := by decide +kernel
theorem dX7_fault_9 : decode cX7_fault 9 = .ok (.aload_n 0, 1) := by decide +kernel
theorem dX7_fault_10 : decode cX7_fault 10 = .ok (.getfield 37, 3) := by decide +kernel
theorem dX7_fault_13 : decode cX7_fault 13 = .ok (.getfield 88, 3) := by decide +kernel
theorem dX7_fault_16 : decode cX7_fault 16 = .ok (.if_icmp .ge 7, 3) := by decide +kernel
theorem dX7_fault_19 : decode cX7_fault 19 = .ok (.iload_n 1, 1) := by decide +kernel
theorem dX7_fault_20 : decode cX7_fault 20 = .ok (.goto 5, 3) := by decide +kernel
theorem dX7_fault_23 : decode cX7_fault 23 = .ok (.bipush (-6), 2) := by decide +kernel
theorem dX7_fault_25 : decode cX7_fault 25 = .ok (.ireturn, 1) := by decide +kernel
set_option maxRecDepth 20000 in
theorem ggX7_undo_X3_takeBack : GoodIn wsX7_undo wsX3_takeBack := goodIn_r _ [8, 9, 10, 11, 12, 13, 14, 15, 16, 17, 18, 19, 20, 21, 22, 23, 24, 25, 26, 27, 40, 41, 42, 43, 44, 45, 46, 47, 48, 49] (by decide +kernel) (by decide +kernel)
set_option maxRecDepth 20000 in
theorem gX7_undo_X3_takeBack : GoodIn wsX7_undo (wsV RX7 251 RX3 yX3_takeBack wsX3_takeBack) := goodIn_app (goodIn_of _ (by decide +kernel)) ggX7_undo_X3_takeBack
theorem dX7_undo_0 : decode cX7_undo 0 = .ok (.aload_n 0, 1) := by decide +kernel
theorem dX7_undo_1 : decode cX7_undo 1 = .ok (.getfield 30, 3) := by decide +kernel
theorem dX7_undo_4 : decode cX7_undo 4 = .ok (.getfield 232, 3) := by decide +kernel
theorem dX7_undo_7 : decode cX7_undo 7 = .ok (.ifCond .ne 6, 3) := by decide +kernel
theorem dX7_undo_10 : decode cX7_undo 10 = .ok (.bipush (-5), 2) := by decide +kernel
theorem dX7_undo_12 : decode cX7_undo 12 = .ok (.ireturn, 1) := by decide +kernel
theorem dX7_undo_13 : decode cX7_undo 13 = .ok (.aload_n 0, 1) := by decide +kernel
theorem dX7_undo_14 : decode cX7_undo 14 = .ok (.getfield 30, 3) := by decide +kernel
theorem dX7_undo_17 : decode cX7_undo 17 = .ok (.aload_n 0, 1) := by decide +kernel
theorem dX7_undo_18 : decode cX7_undo 18 = .ok (.getfield 10, 3) := by decide +kernel
theorem dX7_undo_21 : decode cX7_undo 21 = .ok (.invokevirtual 251, 3) := by decide +kernel
theorem dX7_undo_24 : decode cX7_undo 24 = .ok (.aload_n 0, 1) := by decide +kernel
theorem dX7_undo_25 : decode cX7_undo 25 = .ok (.getfield 30, 3) := by decide +kernel
theorem dX7_undo_28 : decode cX7_undo 28 = .ok (.getfield 232, 3) := by decide +kernel
theorem dX7_undo_31 : decode cX7_undo 31 = .ok (.ireturn, 1) := by decide +kernel
set_option maxRecDepth 20000 in
theorem ggX7_save_X2_copyFrom : GoodIn wsX7_save wsX2_copyFrom := goodIn_r _ [9, 10, 11, 12, 13, 14, 15, 16, 17, 18, 19, 20, 21, 34, 35, 36, 37, 38, 39, 40, 41] (by decide +kernel) (by decide +kernel)
set_option maxRecDepth 20000 in
theorem gX7_save_X2_copyFrom : GoodIn wsX7_save (wsV RX7 235 RX2 yX2_copyFrom wsX2_copyFrom) := goodIn_app (goodIn_of _ (by decide +kernel)) ggX7_save_X2_copyFrom
theorem dX7_save_0 : decode cX7_save 0 = .ok (.iload_n 1, 1) := by decide +kernel
theorem dX7_save_1 : decode cX7_save 1 = .ok (.ifCond .lt 8, 3) := by decide +kernel
theorem dX7_save_4 : decode cX7_save 4 = .ok (.iload_n 1, 1) := by decide +kernel
theorem dX7_save_5 : decode cX7_save 5 = .ok (.iconst 2, 1) := by decide +kernel
theorem dX7_save_6 : decode cX7_save 6 = .ok (.if_icmp .lt 6, 3) := by decide +kernel
theorem dX7_save_9 : decode cX7_save 9 = .ok (.bipush (-2), 2) := by decide +kernel
theorem dX7_save_11 : decode cX7_save 11 = .ok (.ireturn, 1) := by decide +kernel
theorem dX7_save_12 : decode cX7_save 12 = .ok (.aload_n 0, 1) := by decide +kernel
theorem dX7_save_13 : decode cX7_save 13 = .ok (.getfield 19, 3) := by decide +kernel
theorem dX7_save_16 : decode cX7_save 16 = .ok (.iload_n 1, 1) := by decide +kernel
theorem dX7_save_17 : decode cX7_save 17 = .ok (.aaload, 1) := by decide +kernel
theorem dX7_save_18 : decode cX7_save 18 = .ok (.aload_n 0, 1) := by decide +kernel
theorem dX7_save_19 : decode cX7_save 19 = .ok (.getfield 10, 3) := by decide +kernel
theorem dX7_save_22 : decode cX7_save 22 = .ok (.invokevirtual 235, 3) := by decide +kernel
theorem dX7_save_25 : decode cX7_save 25 = .ok (.aload_n 0, 1) := by decide +kernel
theorem dX7_save_26 : decode cX7_save 26 = .ok (.getfield 23, 3) := by decide +kernel
theorem dX7_save_29 : decode cX7_save 29 = .ok (.iload_n 1, 1) := by decide +kernel
theorem dX7_save_30 : decode cX7_save 30 = .ok (.iconst 1, 1) := by decide +kernel
theorem dX7_save_31 : decode cX7_save 31 = .ok (.bastore, 1) := by decide +kernel
theorem dX7_save_32 : decode cX7_save 32 = .ok (.aload_n 0, 1) := by decide +kernel
theorem dX7_save_33 : decode cX7_save 33 = .ok (.getfield 10, 3) := by decide +kernel
theorem dX7_save_36 : decode cX7_save 36 = .ok (.getfield 96, 3) := by decide +kernel
theorem dX7_save_39 : decode cX7_save 39 = .ok (.ireturn, 1) := by decide +kernel
set_option maxRecDepth 20000 in
theorem ggX7_restore_X3_record : GoodIn wsX7_restore wsX3_record := goodIn_r _ [10, 11, 12, 13, 14, 15, 9, 16, 17, 18, 19, 20, 21, 22, 23, 24, 25, 26, 27, 28, 29, 30, 31, 32, 33, 55, 56, 47, 48, 49, 50, 51, 52, 53, 54] (by decide +kernel) (by decide +kernel)
set_option maxRecDepth 20000 in
theorem gX7_restore_X3_record : GoodIn wsX7_restore (wsV RX7 80 RX3 yX3_record wsX3_record) := goodIn_app (goodIn_of _ (by decide +kernel)) ggX7_restore_X3_record
set_option maxRecDepth 20000 in
theorem ggX7_restore_X2_copyFrom : GoodIn wsX7_restore wsX2_copyFrom := goodIn_r _ [21, 22, 23, 24, 25, 26, 27, 28, 29, 30, 31, 32, 33, 47, 48, 49, 50, 51, 52, 53, 54] (by decide +kernel) (by decide +kernel)
set_option maxRecDepth 20000 in
theorem gX7_restore_X2_copyFrom : GoodIn wsX7_restore (wsV RX7 235 RX2 yX2_copyFrom wsX2_copyFrom) := goodIn_app (goodIn_of _ (by decide +kernel)) ggX7_restore_X2_copyFrom
theorem dX7_restore_0 : decode cX7_restore 0 = .ok (.iload_n 1, 1) := by decide +kernel
theorem dX7_restore_1 : decode cX7_restore 1 = .ok (.ifCond .lt 8, 3) := by decide +kernel
theorem dX7_restore_4 : decode cX7_restore 4 = .ok (.iload_n 1, 1) := by decide +kernel
theorem dX7_restore_5 : decode cX7_restore 5 = .ok (.iconst 2, 1) := by decide +kernel
theorem dX7_restore_6 : decode cX7_restore 6 = .ok (.if_icmp .lt 6, 3) := by decide +kernel
theorem dX7_restore_9 : decode cX7_restore 9 = .ok (.bipush (-2), 2) := by decide +kernel
theorem dX7_restore_11 : decode cX7_restore 11 = .ok (.ireturn, 1) := by decide +kernel
theorem dX7_restore_12 : decode cX7_restore 12 = .ok (.aload_n 0, 1) := by decide +kernel
theorem dX7_restore_13 : decode cX7_restore 13 = .ok (.getfield 23, 3) := by decide +kernel
theorem dX7_restore_16 : decode cX7_restore 16 = .ok (.iload_n 1, 1) := by decide +kernel
theorem dX7_restore_17 : decode cX7_restore 17 = .ok (.baload, 1) := by decide +kernel
theorem dX7_restore_18 : decode cX7_restore 18 = .ok (.ifCond .ne 6, 3) := by decide +kernel
theorem dX7_restore_21 : decode cX7_restore 21 = .ok (.bipush (-5), 2) := by decide +kernel
theorem dX7_restore_23 : decode cX7_restore 23 = .ok (.ireturn, 1) := by decide +kernel
theorem dX7_restore_24 : decode cX7_restore 24 = .ok (.aload_n 0, 1) := by decide +kernel
theorem dX7_restore_25 : decode cX7_restore 25 = .ok (.getfield 30, 3) := by decide +kernel
theorem dX7_restore_28 : decode cX7_restore 28 = .ok (.aload_n 0, 1) := by decide +kernel
theorem dX7_restore_29 : decode cX7_restore 29 = .ok (.getfield 10, 3) := by decide +kernel
theorem dX7_restore_32 : decode cX7_restore 32 = .ok (.invokevirtual 80, 3) := by decide +kernel
theorem dX7_restore_35 : decode cX7_restore 35 = .ok (.aload_n 0, 1) := by decide +kernel
theorem dX7_restore_36 : decode cX7_restore 36 = .ok (.getfield 10, 3) := by decide +kernel
theorem dX7_restore_39 : decode cX7_restore 39 = .ok (.aload_n 0, 1) := by decide +kernel
theorem dX7_restore_40 : decode cX7_restore 40 = .ok (.getfield 19, 3) := by decide +kernel
theorem dX7_restore_43 : decode cX7_restore 43 = .ok (.iload_n 1, 1) := by decide +kernel
theorem dX7_restore_44 : decode cX7_restore 44 = .ok (.aaload, 1) := by decide +kernel
theorem dX7_restore_45 : decode cX7_restore 45 = .ok (.invokevirtual 235, 3) := by decide +kernel
theorem dX7_restore_48 : decode cX7_restore 48 = .ok (.aload_n 0, 1) := by decide +kernel
theorem dX7_restore_49 : decode cX7_restore 49 = .ok (.getfield 10, 3) := by decide +kernel
theorem dX7_restore_52 : decode cX7_restore 52 = .ok (.getfield 96, 3) := by decide +kernel
theorem dX7_restore_55 : decode cX7_restore 55 = .ok (.ireturn, 1) := by decide +kernel
theorem dX7_isPiece_0 : decode cX7_isPiece 0 = .ok (.iload_n 1, 1) := by decide +kernel
theorem dX7_isPiece_1 : decode cX7_isPiece 1 = .ok (.ifCond .lt 18, 3) := by decide +kernel
theorem dX7_isPiece_4 : decode cX7_isPiece 4 = .ok (.iload_n 1, 1) := by decide +kernel
theorem dX7_isPiece_5 : decode cX7_isPiece 5 = .ok (.aload_n 0, 1) := by decide +kernel
theorem dX7_isPiece_6 : decode cX7_isPiece 6 = .ok (.getfield 10, 3) := by decide +kernel
theorem dX7_isPiece_9 : decode cX7_isPiece 9 = .ok (.getfield 96, 3) := by decide +kernel
theorem dX7_isPiece_12 : decode cX7_isPiece 12 = .ok (.if_icmp .ge 7, 3) := by decide +kernel
theorem dX7_isPiece_15 : decode cX7_isPiece 15 = .ok (.iconst 1, 1) := by decide +kernel
theorem dX7_isPiece_16 : decode cX7_isPiece 16 = .ok (.goto 4, 3) := by decide +kernel
theorem dX7_isPiece_19 : decode cX7_isPiece 19 = .ok (.iconst 0, 1) := by decide +kernel
theorem dX7_isPiece_20 : decode cX7_isPiece 20 = .ok (.ireturn, 1) := by decide +kernel
theorem dX7_isWord_0 : decode cX7_isWord 0 = .ok (.iload_n 1, 1) := by decide +kernel
theorem dX7_isWord_1 : decode cX7_isWord 1 = .ok (.ifCond .lt 18, 3) := by decide +kernel
theorem dX7_isWord_4 : decode cX7_isWord 4 = .ok (.iload_n 1, 1) := by decide +kernel
theorem dX7_isWord_5 : decode cX7_isWord 5 = .ok (.aload_n 0, 1) := by decide +kernel
theorem dX7_isWord_6 : decode cX7_isWord 6 = .ok (.getfield 10, 3) := by decide +kernel
theorem dX7_isWord_9 : decode cX7_isWord 9 = .ok (.getfield 113, 3) := by decide +kernel
theorem dX7_isWord_12 : decode cX7_isWord 12 = .ok (.if_icmp .ge 7, 3) := by decide +kernel
theorem dX7_isWord_15 : decode cX7_isWord 15 = .ok (.iconst 1, 1) := by decide +kernel
theorem dX7_isWord_16 : decode cX7_isWord 16 = .ok (.goto 4, 3) := by decide +kernel
theorem dX7_isWord_19 : decode cX7_isWord 19 = .ok (.iconst 0, 1) := by decide +kernel
theorem dX7_isWord_20 : decode cX7_isWord 20 = .ok (.ireturn, 1) := by decide +kernel
set_option maxRecDepth 20000 in
theorem ggX7_newPieceError_X6_holdsLetters : GoodIn wsX7_newPieceError wsX6_holdsLetters := goodIn_r _ [8, 9, 10, 11, 12, 7, 13, 14, 15, 16, 17, 18, 50, 51] (by decide +kernel) (by decide +kernel)
set_option maxRecDepth 20000 in
theorem gX7_newPieceError_X6_holdsLetters : GoodIn wsX7_newPieceError (wsV RX7 110 RX6 yX6_holdsLetters wsX6_holdsLetters) := goodIn_app (goodIn_of _ (by decide +kernel)) ggX7_newPieceError_X6_holdsLetters
set_option maxRecDepth 20000 in
theorem ggX7_newPieceError_X6_text : GoodIn wsX7_newPieceError wsX6_text := goodIn_r _ [22, 9, 14, 15, 16, 7, 17, 18, 50, 51] (by decide +kernel) (by decide +kernel)
set_option maxRecDepth 20000 in
theorem gX7_newPieceError_X6_text : GoodIn wsX7_newPieceError (wsV RX7 84 RX6 yX6_text wsX6_text) := goodIn_app (goodIn_of _ (by decide +kernel)) ggX7_newPieceError_X6_text
set_option maxRecDepth 20000 in
theorem ggX7_newPieceError_X2_pieceWith : GoodIn wsX7_newPieceError wsX2_pieceWith := goodIn_r _ [27, 28, 29, 42, 43, 44, 45, 46, 47, 48, 49] (by decide +kernel) (by decide +kernel)
set_option maxRecDepth 20000 in
theorem gX7_newPieceError_X2_pieceWith : GoodIn wsX7_newPieceError (wsV RX7 254 RX2 yX2_pieceWith wsX2_pieceWith) := goodIn_app (goodIn_of _ (by decide +kernel)) ggX7_newPieceError_X2_pieceWith
theorem dX7_newPieceError_0 : decode cX7_newPieceError 0 = .ok (.aload_n 0, 1) := by decide +kernel
theorem dX7_newPieceError_1 : decode cX7_newPieceError 1 = .ok (.getfield 37, 3) := by decide +kernel
theorem dX7_newPieceError_4 : decode cX7_newPieceError 4 = .ok (.iconst 4, 1) := by decide +kernel
theorem dX7_newPieceError_5 : decode cX7_newPieceError 5 = .ok (.invokevirtual 110, 3) := by decide +kernel
theorem dX7_newPieceError_8 : decode cX7_newPieceError 8 = .ok (.ifCond .ne 6, 3) := by decide +kernel
theorem dX7_newPieceError_11 : decode cX7_newPieceError 11 = .ok (.bipush (-3), 2) := by decide +kernel
theorem dX7_newPieceError_13 : decode cX7_newPieceError 13 = .ok (.ireturn, 1) := by decide +kernel
theorem dX7_newPieceError_14 : decode cX7_newPieceError 14 = .ok (.iload_n 1, 1) := by decide +kernel
theorem dX7_newPieceError_15 : decode cX7_newPieceError 15 = .ok (.iconst 1, 1) := by decide +kernel
theorem dX7_newPieceError_16 : decode cX7_newPieceError 16 = .ok (.if_icmp .lt 9, 3) := by decide +kernel
theorem dX7_newPieceError_19 : decode cX7_newPieceError 19 = .ok (.iload_n 1, 1) := by decide +kernel
theorem dX7_newPieceError_20 : decode cX7_newPieceError 20 = .ok (.bipush 9, 2) := by decide +kernel
theorem dX7_newPieceError_22 : decode cX7_newPieceError 22 = .ok (.if_icmp .le 6, 3) := by decide +kernel
theorem dX7_newPieceError_25 : decode cX7_newPieceError 25 = .ok (.bipush (-2), 2) := by decide +kernel
theorem dX7_newPieceError_27 : decode cX7_newPieceError 27 = .ok (.ireturn, 1) := by decide +kernel
theorem dX7_newPieceError_28 : decode cX7_newPieceError 28 = .ok (.aload_n 0, 1) := by decide +kernel
theorem dX7_newPieceError_29 : decode cX7_newPieceError 29 = .ok (.getfield 10, 3) := by decide +kernel
theorem dX7_newPieceError_32 : decode cX7_newPieceError 32 = .ok (.getfield 96, 3) := by decide +kernel
theorem dX7_newPieceError_35 : decode cX7_newPieceError 35 = .ok (.bipush 16, 2) := by decide +kernel
theorem dX7_newPieceError_37 : decode cX7_newPieceError 37 = .ok (.if_icmp .lt 6, 3) := by decide +kernel
theorem dX7_newPieceError_40 : decode cX7_newPieceError 40 = .ok (.bipush (-4), 2) := by decide +kernel
theorem dX7_newPieceError_42 : decode cX7_newPieceError 42 = .ok (.ireturn, 1) := by decide +kernel
theorem dX7_newPieceError_43 : decode cX7_newPieceError 43 = .ok (.aload_n 0, 1) := by decide +kernel
theorem dX7_newPieceError_44 : decode cX7_newPieceError 44 = .ok (.getfield 10, 3) := by decide +kernel
theorem dX7_newPieceError_47 : decode cX7_newPieceError 47 = .ok (.aload_n 0, 1) := by decide +kernel
theorem dX7_newPieceError_48 : decode cX7_newPieceError 48 = .ok (.getfield 37, 3) := by decide +kernel
theorem dX7_newPieceError_51 : decode cX7_newPieceError 51 = .ok (.invokevirtual 84, 3) := by decide +kernel
theorem dX7_newPieceError_54 : decode cX7_newPieceError 54 = .ok (.invokevirtual 254, 3) := by decide +kernel
theorem dX7_newPieceError_57 : decode cX7_newPieceError 57 = .ok (.iconst (-1), 1) := by decide +kernel
theorem dX7_newPieceError_58 : decode cX7_newPieceError 58 = .ok (.if_icmp .eq 6, 3) := by decide +kernel
theorem dX7_newPieceError_61 : decode cX7_newPieceError 61 = .ok (.bipush (-5), 2) := by decide +kernel
theorem dX7_newPieceError_63 : decode cX7_newPieceError 63 = .ok (.ireturn, 1) := by decide +kernel
theorem dX7_newPieceError_64 : decode cX7_newPieceError 64 = .ok (.iconst 0, 1) := by decide +kernel
theorem dX7_newPieceError_65 : decode cX7_newPieceError 65 = .ok (.ireturn, 1) := by decide +kernel
theorem dX7_charactersIn_0 : decode cX7_charactersIn 0 = .ok (.lload_n 0, 1) := by decide +kernel
theorem dX7_charactersIn_1 : decode cX7_charactersIn 1 = .ok (.lstore_n 2, 1) := by decide +kernel
theorem dX7_charactersIn_2 : decode cX7_charactersIn 2 = .ok (.iconst 0, 1) := by decide +kernel
theorem dX7_charactersIn_3 : decode cX7_charactersIn 3 = .ok (.istore 4, 2) := by decide +kernel
theorem dX7_charactersIn_5 : decode cX7_charactersIn 5 = .ok (.iconst 0, 1) := by decide +kernel
theorem dX7_charactersIn_6 : decode cX7_charactersIn 6 = .ok (.istore 5, 2) := by decide +kernel
theorem dX7_charactersIn_8 : decode cX7_charactersIn 8 = .ok (.iload 5, 2) := by decide +kernel
theorem dX7_charactersIn_10 : decode cX7_charactersIn 10 = .ok (.bipush 8, 2) := by decide +kernel
theorem dX7_charactersIn_12 : decode cX7_charactersIn 12 = .ok (.if_icmp .ge 47, 3) := by decide +kernel
theorem dX7_charactersIn_15 : decode cX7_charactersIn 15 = .ok (.lload_n 2, 1) := by decide +kernel
theorem dX7_charactersIn_16 : decode cX7_charactersIn 16 = .ok (.lconst 0, 1) := by decide +kernel
theorem dX7_charactersIn_17 : decode cX7_charactersIn 17 = .ok (.lcmp, 1) := by decide +kernel
theorem dX7_charactersIn_18 : decode cX7_charactersIn 18 = .ok (.ifCond .eq 41, 3) := by decide +kernel
theorem dX7_charactersIn_21 : decode cX7_charactersIn 21 = .ok (.lload_n 2, 1) := by decide +kernel
theorem dX7_charactersIn_22 : decode cX7_charactersIn 22 = .ok (.ldc2_w 257, 3) := by decide +kernel
theorem dX7_charactersIn_25 : decode cX7_charactersIn 25 = .ok (.land, 1) := by decide +kernel
theorem dX7_charactersIn_26 : decode cX7_charactersIn 26 = .ok (.l2i, 1) := by decide +kernel
theorem dX7_charactersIn_27 : decode cX7_charactersIn 27 = .ok (.istore 6, 2) := by decide +kernel
theorem dX7_charactersIn_29 : decode cX7_charactersIn 29 = .ok (.iload 6, 2) := by decide +kernel
theorem dX7_charactersIn_31 : decode cX7_charactersIn 31 = .ok (.bipush 33, 2) := by decide +kernel
theorem dX7_charactersIn_33 : decode cX7_charactersIn 33 = .ok (.if_icmp .lt 10, 3) := by decide +kernel
theorem dX7_charactersIn_36 : decode cX7_charactersIn 36 = .ok (.iload 6, 2) := by decide +kernel
theorem dX7_charactersIn_38 : decode cX7_charactersIn 38 = .ok (.bipush 126, 2) := by decide +kernel
theorem dX7_charactersIn_40 : decode cX7_charactersIn 40 = .ok (.if_icmp .le 5, 3) := by decide +kernel
theorem dX7_charactersIn_43 : decode cX7_charactersIn 43 = .ok (.iconst 0, 1) := by decide +kernel
theorem dX7_charactersIn_44 : decode cX7_charactersIn 44 = .ok (.ireturn, 1) := by decide +kernel
theorem dX7_charactersIn_45 : decode cX7_charactersIn 45 = .ok (.iinc 4 1, 3) := by decide +kernel
theorem dX7_charactersIn_48 : decode cX7_charactersIn 48 = .ok (.lload_n 2, 1) := by decide +kernel
theorem dX7_charactersIn_49 : decode cX7_charactersIn 49 = .ok (.bipush 8, 2) := by decide +kernel
theorem dX7_charactersIn_51 : decode cX7_charactersIn 51 = .ok (.lushr, 1) := by decide +kernel
theorem dX7_charactersIn_52 : decode cX7_charactersIn 52 = .ok (.lstore_n 2, 1) := by decide +kernel
theorem dX7_charactersIn_53 : decode cX7_charactersIn 53 = .ok (.iinc 5 1, 3) := by decide +kernel
theorem dX7_charactersIn_56 : decode cX7_charactersIn 56 = .ok (.goto (-48), 3) := by decide +kernel
theorem dX7_charactersIn_59 : decode cX7_charactersIn 59 = .ok (.iload 4, 2) := by decide +kernel
theorem dX7_charactersIn_61 : decode cX7_charactersIn 61 = .ok (.ireturn, 1) := by decide +kernel
theorem dX7_letterOfText_0 : decode cX7_letterOfText 0 = .ok (.iload_n 2, 1) := by decide +kernel
theorem dX7_letterOfText_1 : decode cX7_letterOfText 1 = .ok (.iload_n 1, 1) := by decide +kernel
theorem dX7_letterOfText_2 : decode cX7_letterOfText 2 = .ok (.if_icmp .lt 6, 3) := by decide +kernel
theorem dX7_letterOfText_5 : decode cX7_letterOfText 5 = .ok (.bipush (-6), 2) := by decide +kernel
theorem dX7_letterOfText_7 : decode cX7_letterOfText 7 = .ok (.ireturn, 1) := by decide +kernel
theorem dX7_letterOfText_8 : decode cX7_letterOfText 8 = .ok (.iload_n 0, 1) := by decide +kernel
theorem dX7_letterOfText_9 : decode cX7_letterOfText 9 = .ok (.iconst 3, 1) := by decide +kernel
theorem dX7_letterOfText_10 : decode cX7_letterOfText 10 = .ok (.iload_n 1, 1) := by decide +kernel
theorem dX7_letterOfText_11 : decode cX7_letterOfText 11 = .ok (.iconst 1, 1) := by decide +kernel
theorem dX7_letterOfText_12 : decode cX7_letterOfText 12 = .ok (.isub, 1) := by decide +kernel
theorem dX7_letterOfText_13 : decode cX7_letterOfText 13 = .ok (.iload_n 2, 1) := by decide +kernel
theorem dX7_letterOfText_14 : decode cX7_letterOfText 14 = .ok (.isub, 1) := by decide +kernel
theorem dX7_letterOfText_15 : decode cX7_letterOfText 15 = .ok (.imul, 1) := by decide +kernel
theorem dX7_letterOfText_16 : decode cX7_letterOfText 16 = .ok (.ishr, 1) := by decide +kernel
theorem dX7_letterOfText_17 : decode cX7_letterOfText 17 = .ok (.bipush 7, 2) := by decide +kernel
theorem dX7_letterOfText_19 : decode cX7_letterOfText 19 = .ok (.iand, 1) := by decide +kernel
theorem dX7_letterOfText_20 : decode cX7_letterOfText 20 = .ok (.iconst 1, 1) := by decide +kernel
theorem dX7_letterOfText_21 : decode cX7_letterOfText 21 = .ok (.isub, 1) := by decide +kernel
theorem dX7_letterOfText_22 : decode cX7_letterOfText 22 = .ok (.ireturn, 1) := by decide +kernel
set_option maxRecDepth 20000 in
theorem ggX7_cutBest_X4_read : GoodIn wsX7_cutBest wsX4_read := goodIn_r _ [7, 8, 9, 10, 11, 12, 13, 14, 15, 16, 17, 18, 19, 20, 6, 21, 22, 23, 24, 25, 26, 27, 28, 29, 30, 31, 32, 33, 34, 35, 36, 37, 38, 39, 40, 85, 86, 87, 88, 89, 90, 91, 92, 93, 94, 95, 96] (by decide +kernel) (by decide +kernel)
set_option maxRecDepth 20000 in
theorem gX7_cutBest_X4_read : GoodIn wsX7_cutBest (wsV RX7 201 RX4 yX4_read wsX4_read) := goodIn_app (goodIn_of _ (by decide +kernel)) ggX7_cutBest_X4_read
set_option maxRecDepth 20000 in
theorem ggX7_cutBest_X1_find : GoodIn wsX7_cutBest wsX1_find := goodIn_r _ [45, 46, 47, 48, 49, 50, 51, 44, 52, 53, 54, 19, 20, 6, 21, 9, 22, 23, 24, 25, 55, 56, 57, 58, 11, 59, 60, 61, 62, 17, 32, 33, 34, 63, 64, 65, 66, 67, 68, 69, 70, 71, 72, 97, 98, 99, 100, 101, 102, 103, 104, 93, 94, 95, 96] (by decide +kernel) (by decide +kernel)
set_option maxRecDepth 20000 in
theorem gX7_cutBest_X1_find : GoodIn wsX7_cutBest (wsV RX7 259 RX1 yX1_find wsX1_find) := goodIn_app (goodIn_of _ (by decide +kernel)) ggX7_cutBest_X1_find
theorem dX7_cutBest_0 : decode cX7_cutBest 0 = .ok (.aload_n 0, 1) := by decide +kernel
theorem dX7_cutBest_1 : decode cX7_cutBest 1 = .ok (.getfield 44, 3) := by decide +kernel
theorem dX7_cutBest_4 : decode cX7_cutBest 4 = .ok (.aload_n 1, 1) := by decide +kernel
theorem dX7_cutBest_5 : decode cX7_cutBest 5 = .ok (.iload_n 2, 1) := by decide +kernel
theorem dX7_cutBest_6 : decode cX7_cutBest 6 = .ok (.invokevirtual 201, 3) := by decide +kernel
theorem dX7_cutBest_9 : decode cX7_cutBest 9 = .ok (.aload_n 0, 1) := by decide +kernel
theorem dX7_cutBest_10 : decode cX7_cutBest 10 = .ok (.getfield 51, 3) := by decide +kernel
theorem dX7_cutBest_13 : decode cX7_cutBest 13 = .ok (.aload_n 0, 1) := by decide +kernel
theorem dX7_cutBest_14 : decode cX7_cutBest 14 = .ok (.getfield 44, 3) := by decide +kernel
theorem dX7_cutBest_17 : decode cX7_cutBest 17 = .ok (.iconst (-1), 1) := by decide +kernel
theorem dX7_cutBest_18 : decode cX7_cutBest 18 = .ok (.invokevirtual 259, 3) := by decide +kernel
theorem dX7_cutBest_21 : decode cX7_cutBest 21 = .ok (.return_, 1) := by decide +kernel
set_option maxRecDepth 20000 in
theorem ggX7_costOfAll_X7_cutBest : GoodIn wsX7_costOfAll wsX7_cutBest := goodIn_r _ [8, 9, 2, 10, 11, 12, 13, 14, 15, 16, 17, 18, 19, 20, 21, 22, 23, 24, 25, 26, 27, 28, 29, 30, 31, 32, 33, 34, 35, 36, 37, 38, 39, 40, 41, 42, 43, 44, 45, 46, 47, 48, 49, 50, 51, 52, 53, 54, 55, 56, 57, 58, 59, 60, 61, 62, 63, 64, 65, 66, 67, 68, 69, 70, 71, 72, 73, 74, 75, 76, 77, 78, 79, 92, 93, 94, 95, 96, 97, 98, 99, 100, 101, 102, 103, 84, 85, 86, 87, 88, 89, 90, 91, 104, 105, 106, 107, 108, 109, 110, 111, 112, 113, 114, 115] (by decide +kernel) (by decide +kernel)
set_option maxRecDepth 20000 in
theorem gX7_costOfAll_X7_cutBest : GoodIn wsX7_costOfAll (wsV RX7 173 RX7 yX7_cutBest wsX7_cutBest) := goodIn_app (goodIn_of _ (by decide +kernel)) ggX7_costOfAll_X7_cutBest
set_option maxRecDepth 20000 in
theorem ggX7_costOfAll_X1_cost : GoodIn wsX7_costOfAll wsX1_cost := goodIn_r _ [83, 74, 75, 108, 109, 110, 111, 112, 113, 114, 115] (by decide +kernel) (by decide +kernel)
set_option maxRecDepth 20000 in
theorem gX7_costOfAll_X1_cost : GoodIn wsX7_costOfAll (wsV RX7 186 RX1 yX1_cost wsX1_cost) := goodIn_app (goodIn_of _ (by decide +kernel)) ggX7_costOfAll_X1_cost
theorem dX7_costOfAll_0 : decode cX7_costOfAll 0 = .ok (.iconst 0, 1) := by decide +kernel
theorem dX7_costOfAll_1 : decode cX7_costOfAll 1 = .ok (.istore_n 2, 1) := by decide +kernel
theorem dX7_costOfAll_2 : decode cX7_costOfAll 2 = .ok (.iconst 0, 1) := by decide +kernel
theorem dX7_costOfAll_3 : decode cX7_costOfAll 3 = .ok (.istore_n 3, 1) := by decide +kernel
theorem dX7_costOfAll_4 : decode cX7_costOfAll 4 = .ok (.iload_n 3, 1) := by decide +kernel
theorem dX7_costOfAll_5 : decode cX7_costOfAll 5 = .ok (.aload_n 1, 1) := by decide +kernel
theorem dX7_costOfAll_6 : decode cX7_costOfAll 6 = .ok (.getfield 113, 3) := by decide +kernel
theorem dX7_costOfAll_9 : decode cX7_costOfAll 9 = .ok (.if_icmp .ge 32, 3) := by decide +kernel
theorem dX7_costOfAll_12 : decode cX7_costOfAll 12 = .ok (.aload_n 0, 1) := by decide +kernel
theorem dX7_costOfAll_13 : decode cX7_costOfAll 13 = .ok (.aload_n 1, 1) := by decide +kernel
theorem dX7_costOfAll_14 : decode cX7_costOfAll 14 = .ok (.iload_n 3, 1) := by decide +kernel
theorem dX7_costOfAll_15 : decode cX7_costOfAll 15 = .ok (.invokevirtual 173, 3) := by decide +kernel
theorem dX7_costOfAll_18 : decode cX7_costOfAll 18 = .ok (.iload_n 2, 1) := by decide +kernel
theorem dX7_costOfAll_19 : decode cX7_costOfAll 19 = .ok (.aload_n 0, 1) := by decide +kernel
theorem dX7_costOfAll_20 : decode cX7_costOfAll 20 = .ok (.getfield 51, 3) := by decide +kernel
theorem dX7_costOfAll_23 : decode cX7_costOfAll 23 = .ok (.invokevirtual 186, 3) := by decide +kernel
theorem dX7_costOfAll_26 : decode cX7_costOfAll 26 = .ok (.aload_n 1, 1) := by decide +kernel
theorem dX7_costOfAll_27 : decode cX7_costOfAll 27 = .ok (.getfield 123, 3) := by decide +kernel
theorem dX7_costOfAll_30 : decode cX7_costOfAll 30 = .ok (.iload_n 3, 1) := by decide +kernel
theorem dX7_costOfAll_31 : decode cX7_costOfAll 31 = .ok (.iaload, 1) := by decide +kernel
theorem dX7_costOfAll_32 : decode cX7_costOfAll 32 = .ok (.imul, 1) := by decide +kernel
theorem dX7_costOfAll_33 : decode cX7_costOfAll 33 = .ok (.iadd, 1) := by decide +kernel
theorem dX7_costOfAll_34 : decode cX7_costOfAll 34 = .ok (.istore_n 2, 1) := by decide +kernel
theorem dX7_costOfAll_35 : decode cX7_costOfAll 35 = .ok (.iinc 3 1, 3) := by decide +kernel
theorem dX7_costOfAll_38 : decode cX7_costOfAll 38 = .ok (.goto (-34), 3) := by decide +kernel
theorem dX7_costOfAll_41 : decode cX7_costOfAll 41 = .ok (.iload_n 2, 1) := by decide +kernel
theorem dX7_costOfAll_42 : decode cX7_costOfAll 42 = .ok (.ireturn, 1) := by decide +kernel
theorem dX7_lettersOfAll_0 : decode cX7_lettersOfAll 0 = .ok (.iconst 0, 1) := by decide +kernel
theorem dX7_lettersOfAll_1 : decode cX7_lettersOfAll 1 = .ok (.istore_n 1, 1) := by decide +kernel
theorem dX7_lettersOfAll_2 : decode cX7_lettersOfAll 2 = .ok (.iconst 0, 1) := by decide +kernel
theorem dX7_lettersOfAll_3 : decode cX7_lettersOfAll 3 = .ok (.istore_n 2, 1) := by decide +kernel
theorem dX7_lettersOfAll_4 : decode cX7_lettersOfAll 4 = .ok (.iload_n 2, 1) := by decide +kernel
theorem dX7_lettersOfAll_5 : decode cX7_lettersOfAll 5 = .ok (.aload_n 0, 1) := by decide +kernel
theorem dX7_lettersOfAll_6 : decode cX7_lettersOfAll 6 = .ok (.getfield 10, 3) := by decide +kernel
theorem dX7_lettersOfAll_9 : decode cX7_lettersOfAll 9 = .ok (.getfield 113, 3) := by decide +kernel
theorem dX7_lettersOfAll_12 : decode cX7_lettersOfAll 12 = .ok (.if_icmp .ge 31, 3) := by decide +kernel
theorem dX7_lettersOfAll_15 : decode cX7_lettersOfAll 15 = .ok (.iload_n 1, 1) := by decide +kernel
theorem dX7_lettersOfAll_16 : decode cX7_lettersOfAll 16 = .ok (.aload_n 0, 1) := by decide +kernel
theorem dX7_lettersOfAll_17 : decode cX7_lettersOfAll 17 = .ok (.getfield 10, 3) := by decide +kernel
theorem dX7_lettersOfAll_20 : decode cX7_lettersOfAll 20 = .ok (.getfield 177, 3) := by decide +kernel
theorem dX7_lettersOfAll_23 : decode cX7_lettersOfAll 23 = .ok (.iload_n 2, 1) := by decide +kernel
theorem dX7_lettersOfAll_24 : decode cX7_lettersOfAll 24 = .ok (.iaload, 1) := by decide +kernel
theorem dX7_lettersOfAll_25 : decode cX7_lettersOfAll 25 = .ok (.aload_n 0, 1) := by decide +kernel
theorem dX7_lettersOfAll_26 : decode cX7_lettersOfAll 26 = .ok (.getfield 10, 3) := by decide +kernel
theorem dX7_lettersOfAll_29 : decode cX7_lettersOfAll 29 = .ok (.getfield 123, 3) := by decide +kernel
theorem dX7_lettersOfAll_32 : decode cX7_lettersOfAll 32 = .ok (.iload_n 2, 1) := by decide +kernel
theorem dX7_lettersOfAll_33 : decode cX7_lettersOfAll 33 = .ok (.iaload, 1) := by decide +kernel
theorem dX7_lettersOfAll_34 : decode cX7_lettersOfAll 34 = .ok (.imul, 1) := by decide +kernel
theorem dX7_lettersOfAll_35 : decode cX7_lettersOfAll 35 = .ok (.iadd, 1) := by decide +kernel
theorem dX7_lettersOfAll_36 : decode cX7_lettersOfAll 36 = .ok (.istore_n 1, 1) := by decide +kernel
theorem dX7_lettersOfAll_37 : decode cX7_lettersOfAll 37 = .ok (.iinc 2 1, 3) := by decide +kernel
theorem dX7_lettersOfAll_40 : decode cX7_lettersOfAll 40 = .ok (.goto (-36), 3) := by decide +kernel
theorem dX7_lettersOfAll_43 : decode cX7_lettersOfAll 43 = .ok (.iload_n 1, 1) := by decide +kernel
theorem dX7_lettersOfAll_44 : decode cX7_lettersOfAll 44 = .ok (.ireturn, 1) := by decide +kernel
set_option maxRecDepth 20000 in
theorem ggX7_partsOfAll_X7_cutBest : GoodIn wsX7_partsOfAll wsX7_cutBest := goodIn_r _ [10, 11, 3, 12, 13, 14, 15, 16, 17, 18, 19, 20, 21, 22, 23, 24, 25, 26, 27, 28, 29, 30, 31, 32, 33, 34, 35, 36, 37, 38, 39, 40, 41, 42, 43, 44, 45, 46, 47, 48, 49, 50, 51, 52, 53, 54, 55, 56, 57, 58, 59, 60, 61, 62, 63, 64, 65, 66, 67, 68, 69, 70, 71, 72, 73, 74, 75, 76, 77, 78, 79, 80, 81, 82, 83, 84, 85, 86, 87, 88, 89, 90, 91, 92, 93, 94, 95, 96, 97, 98, 99, 100, 101, 110, 111, 112, 113, 102, 103, 104, 105, 106, 107, 108, 109] (by decide +kernel) (by decide +kernel)
set_option maxRecDepth 20000 in
theorem gX7_partsOfAll_X7_cutBest : GoodIn wsX7_partsOfAll (wsV RX7 173 RX7 yX7_cutBest wsX7_cutBest) := goodIn_app (goodIn_of _ (by decide +kernel)) ggX7_partsOfAll_X7_cutBest
theorem dX7_partsOfAll_0 : decode cX7_partsOfAll 0 = .ok (.iconst 0, 1) := by decide +kernel
theorem dX7_partsOfAll_1 : decode cX7_partsOfAll 1 = .ok (.istore_n 1, 1) := by decide +kernel
theorem dX7_partsOfAll_2 : decode cX7_partsOfAll 2 = .ok (.iconst 0, 1) := by decide +kernel
theorem dX7_partsOfAll_3 : decode cX7_partsOfAll 3 = .ok (.istore_n 2, 1) := by decide +kernel
theorem dX7_partsOfAll_4 : decode cX7_partsOfAll 4 = .ok (.iload_n 2, 1) := by decide +kernel
theorem dX7_partsOfAll_5 : decode cX7_partsOfAll 5 = .ok (.aload_n 0, 1) := by decide +kernel
theorem dX7_partsOfAll_6 : decode cX7_partsOfAll 6 = .ok (.getfield 10, 3) := by decide +kernel
theorem dX7_partsOfAll_9 : decode cX7_partsOfAll 9 = .ok (.getfield 113, 3) := by decide +kernel
theorem dX7_partsOfAll_12 : decode cX7_partsOfAll 12 = .ok (.if_icmp .ge 38, 3) := by decide +kernel
theorem dX7_partsOfAll_15 : decode cX7_partsOfAll 15 = .ok (.aload_n 0, 1) := by decide +kernel
theorem dX7_partsOfAll_16 : decode cX7_partsOfAll 16 = .ok (.aload_n 0, 1) := by decide +kernel
theorem dX7_partsOfAll_17 : decode cX7_partsOfAll 17 = .ok (.getfield 10, 3) := by decide +kernel
theorem dX7_partsOfAll_20 : decode cX7_partsOfAll 20 = .ok (.iload_n 2, 1) := by decide +kernel
theorem dX7_partsOfAll_21 : decode cX7_partsOfAll 21 = .ok (.invokevirtual 173, 3) := by decide +kernel
theorem dX7_partsOfAll_24 : decode cX7_partsOfAll 24 = .ok (.iload_n 1, 1) := by decide +kernel
theorem dX7_partsOfAll_25 : decode cX7_partsOfAll 25 = .ok (.aload_n 0, 1) := by decide +kernel
theorem dX7_partsOfAll_26 : decode cX7_partsOfAll 26 = .ok (.getfield 51, 3) := by decide +kernel
theorem dX7_partsOfAll_29 : decode cX7_partsOfAll 29 = .ok (.getfield 180, 3) := by decide +kernel
theorem dX7_partsOfAll_32 : decode cX7_partsOfAll 32 = .ok (.aload_n 0, 1) := by decide +kernel
theorem dX7_partsOfAll_33 : decode cX7_partsOfAll 33 = .ok (.getfield 10, 3) := by decide +kernel
theorem dX7_partsOfAll_36 : decode cX7_partsOfAll 36 = .ok (.getfield 123, 3) := by decide +kernel
theorem dX7_partsOfAll_39 : decode cX7_partsOfAll 39 = .ok (.iload_n 2, 1) := by decide +kernel
theorem dX7_partsOfAll_40 : decode cX7_partsOfAll 40 = .ok (.iaload, 1) := by decide +kernel
theorem dX7_partsOfAll_41 : decode cX7_partsOfAll 41 = .ok (.imul, 1) := by decide +kernel
theorem dX7_partsOfAll_42 : decode cX7_partsOfAll 42 = .ok (.iadd, 1) := by decide +kernel
theorem dX7_partsOfAll_43 : decode cX7_partsOfAll 43 = .ok (.istore_n 1, 1) := by decide +kernel
theorem dX7_partsOfAll_44 : decode cX7_partsOfAll 44 = .ok (.iinc 2 1, 3) := by decide +kernel
theorem dX7_partsOfAll_47 : decode cX7_partsOfAll 47 = .ok (.goto (-43), 3) := by decide +kernel
theorem dX7_partsOfAll_50 : decode cX7_partsOfAll 50 = .ok (.iload_n 1, 1) := by decide +kernel
theorem dX7_partsOfAll_51 : decode cX7_partsOfAll 51 = .ok (.ireturn, 1) := by decide +kernel
set_option maxRecDepth 20000 in
theorem ggX7_timesInBestCuts_X7_cutBest : GoodIn wsX7_timesInBestCuts wsX7_cutBest := goodIn_r _ [11, 12, 3, 13, 14, 15, 16, 17, 18, 19, 20, 21, 22, 23, 24, 25, 26, 27, 28, 29, 30, 31, 32, 33, 34, 35, 36, 37, 38, 39, 40, 41, 42, 43, 44, 45, 46, 47, 48, 49, 50, 51, 52, 53, 54, 55, 56, 57, 58, 59, 60, 61, 62, 63, 64, 65, 66, 67, 68, 69, 70, 71, 72, 73, 74, 75, 76, 77, 78, 79, 80, 81, 82, 83, 84, 85, 86, 87, 88, 89, 90, 91, 92, 93, 94, 95, 96, 97, 98, 99, 100, 101, 102, 111, 112, 113, 114, 103, 104, 105, 106, 107, 108, 109, 110] (by decide +kernel) (by decide +kernel)
set_option maxRecDepth 20000 in
theorem gX7_timesInBestCuts_X7_cutBest : GoodIn wsX7_timesInBestCuts (wsV RX7 173 RX7 yX7_cutBest wsX7_cutBest) := goodIn_app (goodIn_of _ (by decide +kernel)) ggX7_timesInBestCuts_X7_cutBest
theorem dX7_timesInBestCuts_0 : decode cX7_timesInBestCuts 0 = .ok (.iconst 0, 1) := by decide +kernel
theorem dX7_timesInBestCuts_1 : decode cX7_timesInBestCuts 1 = .ok (.istore_n 2, 1) := by decide +kernel
theorem dX7_timesInBestCuts_2 : decode cX7_timesInBestCuts 2 = .ok (.iconst 0, 1) := by decide +kernel
theorem dX7_timesInBestCuts_3 : decode cX7_timesInBestCuts 3 = .ok (.istore_n 3, 1) := by decide +kernel
theorem dX7_timesInBestCuts_4 : decode cX7_timesInBestCuts 4 = .ok (.iload_n 3, 1) := by decide +kernel
theorem dX7_timesInBestCuts_5 : decode cX7_timesInBestCuts 5 = .ok (.aload_n 0, 1) := by decide +kernel
theorem dX7_timesInBestCuts_6 : decode cX7_timesInBestCuts 6 = .ok (.getfield 10, 3) := by decide +kernel
theorem dX7_timesInBestCuts_9 : decode cX7_timesInBestCuts 9 = .ok (.getfield 113, 3) := by decide +kernel
theorem dX7_timesInBestCuts_12 : decode cX7_timesInBestCuts 12 = .ok (.if_icmp .ge 65, 3) := by decide +kernel
theorem dX7_timesInBestCuts_15 : decode cX7_timesInBestCuts 15 = .ok (.aload_n 0, 1) := by decide +kernel
theorem dX7_timesInBestCuts_16 : decode cX7_timesInBestCuts 16 = .ok (.aload_n 0, 1) := by decide +kernel
theorem dX7_timesInBestCuts_17 : decode cX7_timesInBestCuts 17 = .ok (.getfield 10, 3) := by decide +kernel
theorem dX7_timesInBestCuts_20 : decode cX7_timesInBestCuts 20 = .ok (.iload_n 3, 1) := by decide +kernel
theorem dX7_timesInBestCuts_21 : decode cX7_timesInBestCuts 21 = .ok (.invokevirtual 173, 3) := by decide +kernel
theorem dX7_timesInBestCuts_24 : decode cX7_timesInBestCuts 24 = .ok (.iconst 0, 1) := by decide +kernel
theorem dX7_timesInBestCuts_25 : decode cX7_timesInBestCuts 25 = .ok (.istore 4, 2) := by decide +kernel
theorem dX7_timesInBestCuts_27 : decode cX7_timesInBestCuts 27 = .ok (.iload 4, 2) := by decide +kernel
theorem dX7_timesInBestCuts_29 : decode cX7_timesInBestCuts 29 = .ok (.aload_n 0, 1) := by decide +kernel
theorem dX7_timesInBestCuts_30 : decode cX7_timesInBestCuts 30 = .ok (.getfield 51, 3) := by decide +kernel
theorem dX7_timesInBestCuts_33 : decode cX7_timesInBestCuts 33 = .ok (.getfield 180, 3) := by decide +kernel
theorem dX7_timesInBestCuts_36 : decode cX7_timesInBestCuts 36 = .ok (.if_icmp .ge 35, 3) := by decide +kernel
theorem dX7_timesInBestCuts_39 : decode cX7_timesInBestCuts 39 = .ok (.aload_n 0, 1) := by decide +kernel
theorem dX7_timesInBestCuts_40 : decode cX7_timesInBestCuts 40 = .ok (.getfield 51, 3) := by decide +kernel
theorem dX7_timesInBestCuts_43 : decode cX7_timesInBestCuts 43 = .ok (.getfield 213, 3) := by decide +kernel
theorem dX7_timesInBestCuts_46 : decode cX7_timesInBestCuts 46 = .ok (.iload 4, 2) := by decide +kernel
theorem dX7_timesInBestCuts_48 : decode cX7_timesInBestCuts 48 = .ok (.iaload, 1) := by decide +kernel
theorem dX7_timesInBestCuts_49 : decode cX7_timesInBestCuts 49 = .ok (.iload_n 1, 1) := by decide +kernel
theorem dX7_timesInBestCuts_50 : decode cX7_timesInBestCuts 50 = .ok (.if_icmp .ne 15, 3) := by decide +kernel
theorem dX7_timesInBestCuts_53 : decode cX7_timesInBestCuts 53 = .ok (.iload_n 2, 1) := by decide +kernel
theorem dX7_timesInBestCuts_54 : decode cX7_timesInBestCuts 54 = .ok (.aload_n 0, 1) := by decide +kernel
theorem dX7_timesInBestCuts_55 : decode cX7_timesInBestCuts 55 = .ok (.getfield 10, 3) := by decide +kernel
theorem dX7_timesInBestCuts_58 : decode cX7_timesInBestCuts 58 = .ok (.getfield 123, 3) := by decide +kernel
theorem dX7_timesInBestCuts_61 : decode cX7_timesInBestCuts 61 = .ok (.iload_n 3, 1) := by decide +kernel
theorem dX7_timesInBestCuts_62 : decode cX7_timesInBestCuts 62 = .ok (.iaload, 1) := by decide +kernel
theorem dX7_timesInBestCuts_63 : decode cX7_timesInBestCuts 63 = .ok (.iadd, 1) := by decide +kernel
theorem dX7_timesInBestCuts_64 : decode cX7_timesInBestCuts 64 = .ok (.istore_n 2, 1) := by decide +kernel
theorem dX7_timesInBestCuts_65 : decode cX7_timesInBestCuts 65 = .ok (.iinc 4 1, 3) := by decide +kernel
theorem dX7_timesInBestCuts_68 : decode cX7_timesInBestCuts 68 = .ok (.goto (-41), 3) := by decide +kernel
theorem dX7_timesInBestCuts_71 : decode cX7_timesInBestCuts 71 = .ok (.iinc 3 1, 3) := by decide +kernel
theorem dX7_timesInBestCuts_74 : decode cX7_timesInBestCuts 74 = .ok (.goto (-70), 3) := by decide +kernel
theorem dX7_timesInBestCuts_77 : decode cX7_timesInBestCuts 77 = .ok (.iload_n 2, 1) := by decide +kernel
theorem dX7_timesInBestCuts_78 : decode cX7_timesInBestCuts 78 = .ok (.ireturn, 1) := by decide +kernel
set_option maxRecDepth 20000 in
theorem ggX7_loseEach_J7_fill_53178 : GoodIn wsX7_loseEach wsJ7_fill_53178 := goodIn_r _ [11] (by decide +kernel) (by decide +kernel)
set_option maxRecDepth 20000 in
theorem gX7_loseEach_J7_fill_53178 : GoodIn wsX7_loseEach (va_wsS RX7 262 yJ7_fill_53178 wsJ7_fill_53178) := goodIn_app (goodIn_of _ (by decide +kernel)) ggX7_loseEach_J7_fill_53178
set_option maxRecDepth 20000 in
theorem ggX7_loseEach_X4_read : GoodIn wsX7_loseEach wsX4_read := goodIn_r _ [16, 17, 18, 19, 20, 21, 22, 23, 24, 25, 26, 27, 28, 29, 15, 30, 31, 32, 33, 34, 35, 36, 37, 38, 39, 40, 41, 42, 43, 44, 45, 46, 47, 48, 49, 98, 99, 100, 101, 102, 103, 104, 105, 106, 107, 108, 109] (by decide +kernel) (by decide +kernel)
set_option maxRecDepth 20000 in
theorem gX7_loseEach_X4_read : GoodIn wsX7_loseEach (wsV RX7 201 RX4 yX4_read wsX4_read) := goodIn_app (goodIn_of _ (by decide +kernel)) ggX7_loseEach_X4_read
set_option maxRecDepth 20000 in
theorem ggX7_loseEach_X1_find : GoodIn wsX7_loseEach wsX1_find := goodIn_r _ [54, 55, 56, 57, 58, 59, 60, 53, 61, 62, 63, 28, 29, 15, 30, 18, 31, 32, 33, 34, 64, 65, 66, 67, 20, 68, 69, 70, 71, 26, 41, 42, 43, 72, 73, 74, 75, 76, 77, 78, 79, 80, 81, 110, 111, 112, 113, 114, 115, 116, 117, 106, 107, 108, 109] (by decide +kernel) (by decide +kernel)
set_option maxRecDepth 20000 in
theorem gX7_loseEach_X1_find : GoodIn wsX7_loseEach (wsV RX7 259 RX1 yX1_find wsX1_find) := goodIn_app (goodIn_of _ (by decide +kernel)) ggX7_loseEach_X1_find
set_option maxRecDepth 20000 in
theorem ggX7_loseEach_X1_cost : GoodIn wsX7_loseEach wsX1_cost := goodIn_r _ [85, 76, 77, 110, 111, 112, 113, 114, 115, 116, 117] (by decide +kernel) (by decide +kernel)
set_option maxRecDepth 20000 in
theorem gX7_loseEach_X1_cost : GoodIn wsX7_loseEach (wsV RX7 186 RX1 yX1_cost wsX1_cost) := goodIn_app (goodIn_of _ (by decide +kernel)) ggX7_loseEach_X1_cost
theorem dX7_loseEach_0 : decode cX7_loseEach 0 = .ok (.aload_n 0, 1) := by decide +kernel
theorem dX7_loseEach_1 : decode cX7_loseEach 1 = .ok (.getfield 73, 3) := by decide +kernel
theorem dX7_loseEach_4 : decode cX7_loseEach 4 = .ok (.iconst 0, 1) := by decide +kernel
theorem dX7_loseEach_5 : decode cX7_loseEach 5 = .ok (.invokestatic 262, 3) := by decide +kernel
theorem dX7_loseEach_8 : decode cX7_loseEach 8 = .ok (.iconst 0, 1) := by decide +kernel
theorem dX7_loseEach_9 : decode cX7_loseEach 9 = .ok (.istore_n 1, 1) := by decide +kernel
theorem dX7_loseEach_10 : decode cX7_loseEach 10 = .ok (.iload_n 1, 1) := by decide +kernel
theorem dX7_loseEach_11 : decode cX7_loseEach 11 = .ok (.aload_n 0, 1) := by decide +kernel
theorem dX7_loseEach_12 : decode cX7_loseEach 12 = .ok (.getfield 10, 3) := by decide +kernel
theorem dX7_loseEach_15 : decode cX7_loseEach 15 = .ok (.getfield 113, 3) := by decide +kernel
theorem dX7_loseEach_18 : decode cX7_loseEach 18 = .ok (.if_icmp .ge 78, 3) := by decide +kernel
theorem dX7_loseEach_21 : decode cX7_loseEach 21 = .ok (.aload_n 0, 1) := by decide +kernel
theorem dX7_loseEach_22 : decode cX7_loseEach 22 = .ok (.getfield 44, 3) := by decide +kernel
theorem dX7_loseEach_25 : decode cX7_loseEach 25 = .ok (.aload_n 0, 1) := by decide +kernel
theorem dX7_loseEach_26 : decode cX7_loseEach 26 = .ok (.getfield 10, 3) := by decide +kernel
theorem dX7_loseEach_29 : decode cX7_loseEach 29 = .ok (.iload_n 1, 1) := by decide +kernel
theorem dX7_loseEach_30 : decode cX7_loseEach 30 = .ok (.invokevirtual 201, 3) := by decide +kernel
theorem dX7_loseEach_33 : decode cX7_loseEach 33 = .ok (.iconst 0, 1) := by decide +kernel
theorem dX7_loseEach_34 : decode cX7_loseEach 34 = .ok (.istore_n 2, 1) := by decide +kernel
theorem dX7_loseEach_35 : decode cX7_loseEach 35 = .ok (.iload_n 2, 1) := by decide +kernel
theorem dX7_loseEach_36 : decode cX7_loseEach 36 = .ok (.aload_n 0, 1) := by decide +kernel
theorem dX7_loseEach_37 : decode cX7_loseEach 37 = .ok (.getfield 10, 3) := by decide +kernel
theorem dX7_loseEach_40 : decode cX7_loseEach 40 = .ok (.getfield 96, 3) := by decide +kernel
theorem dX7_loseEach_43 : decode cX7_loseEach 43 = .ok (.if_icmp .ge 47, 3) := by decide +kernel
theorem dX7_loseEach_46 : decode cX7_loseEach 46 = .ok (.aload_n 0, 1) := by decide +kernel
theorem dX7_loseEach_47 : decode cX7_loseEach 47 = .ok (.getfield 51, 3) := by decide +kernel
theorem dX7_loseEach_50 : decode cX7_loseEach 50 = .ok (.aload_n 0, 1) := by decide +kernel
theorem dX7_loseEach_51 : decode cX7_loseEach 51 = .ok (.getfield 44, 3) := by decide +kernel
theorem dX7_loseEach_54 : decode cX7_loseEach 54 = .ok (.iload_n 2, 1) := by decide +kernel
theorem dX7_loseEach_55 : decode cX7_loseEach 55 = .ok (.invokevirtual 259, 3) := by decide +kernel
theorem dX7_loseEach_58 : decode cX7_loseEach 58 = .ok (.aload_n 0, 1) := by decide +kernel
theorem dX7_loseEach_59 : decode cX7_loseEach 59 = .ok (.getfield 73, 3) := by decide +kernel
theorem dX7_loseEach_62 : decode cX7_loseEach 62 = .ok (.iload_n 2, 1) := by decide +kernel
theorem dX7_loseEach_63 : decode cX7_loseEach 63 = .ok (.dup2, 1) := by decide +kernel
theorem dX7_loseEach_64 : decode cX7_loseEach 64 = .ok (.iaload, 1) := by decide +kernel
theorem dX7_loseEach_65 : decode cX7_loseEach 65 = .ok (.aload_n 0, 1) := by decide +kernel
theorem dX7_loseEach_66 : decode cX7_loseEach 66 = .ok (.getfield 51, 3) := by decide +kernel
theorem dX7_loseEach_69 : decode cX7_loseEach 69 = .ok (.invokevirtual 186, 3) := by decide +kernel
theorem dX7_loseEach_72 : decode cX7_loseEach 72 = .ok (.aload_n 0, 1) := by decide +kernel
theorem dX7_loseEach_73 : decode cX7_loseEach 73 = .ok (.getfield 10, 3) := by decide +kernel
theorem dX7_loseEach_76 : decode cX7_loseEach 76 = .ok (.getfield 123, 3) := by decide +kernel
theorem dX7_loseEach_79 : decode cX7_loseEach 79 = .ok (.iload_n 1, 1) := by decide +kernel
theorem dX7_loseEach_80 : decode cX7_loseEach 80 = .ok (.iaload, 1) := by decide +kernel
theorem dX7_loseEach_81 : decode cX7_loseEach 81 = .ok (.imul, 1) := by decide +kernel
theorem dX7_loseEach_82 : decode cX7_loseEach 82 = .ok (.iadd, 1) := by decide +kernel
theorem dX7_loseEach_83 : decode cX7_loseEach 83 = .ok (.iastore, 1) := by decide +kernel
theorem dX7_loseEach_84 : decode cX7_loseEach 84 = .ok (.iinc 2 1, 3) := by decide +kernel
theorem dX7_loseEach_87 : decode cX7_loseEach 87 = .ok (.goto (-52), 3) := by decide +kernel
theorem dX7_loseEach_90 : decode cX7_loseEach 90 = .ok (.iinc 1 1, 3) := by decide +kernel
theorem dX7_loseEach_93 : decode cX7_loseEach 93 = .ok (.goto (-83), 3) := by decide +kernel
theorem dX7_loseEach_96 : decode cX7_loseEach 96 = .ok (.return_, 1) := by decide +kernel
set_option maxRecDepth 20000 in
theorem ggX7_bearAll_J7_fill_53178 : GoodIn wsX7_bearAll wsJ7_fill_53178 := goodIn_r _ [11] (by decide +kernel) (by decide +kernel)
set_option maxRecDepth 20000 in
theorem gX7_bearAll_J7_fill_53178 : GoodIn wsX7_bearAll (va_wsS RX7 262 yJ7_fill_53178 wsJ7_fill_53178) := goodIn_app (goodIn_of _ (by decide +kernel)) ggX7_bearAll_J7_fill_53178
set_option maxRecDepth 20000 in
theorem ggX7_bearAll_X4_read : GoodIn wsX7_bearAll wsX4_read := goodIn_r _ [16, 17, 18, 19, 20, 21, 22, 23, 24, 25, 26, 27, 28, 29, 15, 30, 31, 32, 33, 34, 35, 36, 37, 38, 39, 40, 41, 42, 43, 44, 45, 46, 47, 48, 49, 97, 98, 99, 100, 101, 102, 103, 104, 105, 106, 107, 108] (by decide +kernel) (by decide +kernel)
set_option maxRecDepth 20000 in
theorem gX7_bearAll_X4_read : GoodIn wsX7_bearAll (wsV RX7 201 RX4 yX4_read wsX4_read) := goodIn_app (goodIn_of _ (by decide +kernel)) ggX7_bearAll_X4_read
set_option maxRecDepth 20000 in
theorem ggX7_bearAll_X0_find : GoodIn wsX7_bearAll wsX0_find := goodIn_r _ [54, 55, 56, 57, 58, 59, 60, 10, 61, 62, 28, 29, 15, 30, 18, 31, 32, 33, 34, 63, 64, 65, 66, 20, 67, 68, 69, 70, 26, 41, 42, 43, 71, 72, 73, 53, 74, 109, 110, 111, 105, 106, 107, 108] (by decide +kernel) (by decide +kernel)
set_option maxRecDepth 20000 in
theorem gX7_bearAll_X0_find : GoodIn wsX7_bearAll (wsV RX7 189 RX0 yX0_find wsX0_find) := goodIn_app (goodIn_of _ (by decide +kernel)) ggX7_bearAll_X0_find
set_option maxRecDepth 20000 in
theorem ggX7_bearAll_X0_shareOf : GoodIn wsX7_bearAll wsX0_shareOf := goodIn_r _ [78, 56, 55, 57, 79, 62, 28, 29, 15, 30, 18, 31, 32, 33, 34, 80, 68, 69, 70, 26, 41, 42, 43, 63, 64, 65, 66, 20, 67, 81, 82, 83, 53, 84, 105, 106, 107, 108, 109, 110, 111] (by decide +kernel) (by decide +kernel)
set_option maxRecDepth 20000 in
theorem gX7_bearAll_X0_shareOf : GoodIn wsX7_bearAll (wsV RX7 222 RX0 yX0_shareOf wsX0_shareOf) := goodIn_app (goodIn_of _ (by decide +kernel)) ggX7_bearAll_X0_shareOf
theorem dX7_bearAll_0 : decode cX7_bearAll 0 = .ok (.aload_n 0, 1) := by decide +kernel
theorem dX7_bearAll_1 : decode cX7_bearAll 1 = .ok (.getfield 69, 3) := by decide +kernel
theorem dX7_bearAll_4 : decode cX7_bearAll 4 = .ok (.iconst 0, 1) := by decide +kernel
theorem dX7_bearAll_5 : decode cX7_bearAll 5 = .ok (.invokestatic 262, 3) := by decide +kernel
theorem dX7_bearAll_8 : decode cX7_bearAll 8 = .ok (.iconst 0, 1) := by decide +kernel
theorem dX7_bearAll_9 : decode cX7_bearAll 9 = .ok (.istore_n 1, 1) := by decide +kernel
theorem dX7_bearAll_10 : decode cX7_bearAll 10 = .ok (.iload_n 1, 1) := by decide +kernel
theorem dX7_bearAll_11 : decode cX7_bearAll 11 = .ok (.aload_n 0, 1) := by decide +kernel
theorem dX7_bearAll_12 : decode cX7_bearAll 12 = .ok (.getfield 10, 3) := by decide +kernel
theorem dX7_bearAll_15 : decode cX7_bearAll 15 = .ok (.getfield 113, 3) := by decide +kernel
theorem dX7_bearAll_18 : decode cX7_bearAll 18 = .ok (.if_icmp .ge 82, 3) := by decide +kernel
theorem dX7_bearAll_21 : decode cX7_bearAll 21 = .ok (.aload_n 0, 1) := by decide +kernel
theorem dX7_bearAll_22 : decode cX7_bearAll 22 = .ok (.getfield 44, 3) := by decide +kernel
theorem dX7_bearAll_25 : decode cX7_bearAll 25 = .ok (.aload_n 0, 1) := by decide +kernel
theorem dX7_bearAll_26 : decode cX7_bearAll 26 = .ok (.getfield 10, 3) := by decide +kernel
theorem dX7_bearAll_29 : decode cX7_bearAll 29 = .ok (.iload_n 1, 1) := by decide +kernel
theorem dX7_bearAll_30 : decode cX7_bearAll 30 = .ok (.invokevirtual 201, 3) := by decide +kernel
theorem dX7_bearAll_33 : decode cX7_bearAll 33 = .ok (.aload_n 0, 1) := by decide +kernel
theorem dX7_bearAll_34 : decode cX7_bearAll 34 = .ok (.getfield 58, 3) := by decide +kernel
theorem dX7_bearAll_37 : decode cX7_bearAll 37 = .ok (.aload_n 0, 1) := by decide +kernel
theorem dX7_bearAll_38 : decode cX7_bearAll 38 = .ok (.getfield 44, 3) := by decide +kernel
theorem dX7_bearAll_41 : decode cX7_bearAll 41 = .ok (.invokevirtual 189, 3) := by decide +kernel
theorem dX7_bearAll_44 : decode cX7_bearAll 44 = .ok (.iconst 0, 1) := by decide +kernel
theorem dX7_bearAll_45 : decode cX7_bearAll 45 = .ok (.istore_n 2, 1) := by decide +kernel
theorem dX7_bearAll_46 : decode cX7_bearAll 46 = .ok (.iload_n 2, 1) := by decide +kernel
theorem dX7_bearAll_47 : decode cX7_bearAll 47 = .ok (.aload_n 0, 1) := by decide +kernel
theorem dX7_bearAll_48 : decode cX7_bearAll 48 = .ok (.getfield 10, 3) := by decide +kernel
theorem dX7_bearAll_51 : decode cX7_bearAll 51 = .ok (.getfield 96, 3) := by decide +kernel
theorem dX7_bearAll_54 : decode cX7_bearAll 54 = .ok (.if_icmp .ge 40, 3) := by decide +kernel
theorem dX7_bearAll_57 : decode cX7_bearAll 57 = .ok (.aload_n 0, 1) := by decide +kernel
theorem dX7_bearAll_58 : decode cX7_bearAll 58 = .ok (.getfield 69, 3) := by decide +kernel
theorem dX7_bearAll_61 : decode cX7_bearAll 61 = .ok (.iload_n 2, 1) := by decide +kernel
theorem dX7_bearAll_62 : decode cX7_bearAll 62 = .ok (.dup2, 1) := by decide +kernel
theorem dX7_bearAll_63 : decode cX7_bearAll 63 = .ok (.iaload, 1) := by decide +kernel
theorem dX7_bearAll_64 : decode cX7_bearAll 64 = .ok (.aload_n 0, 1) := by decide +kernel
theorem dX7_bearAll_65 : decode cX7_bearAll 65 = .ok (.getfield 10, 3) := by decide +kernel
theorem dX7_bearAll_68 : decode cX7_bearAll 68 = .ok (.getfield 123, 3) := by decide +kernel
theorem dX7_bearAll_71 : decode cX7_bearAll 71 = .ok (.iload_n 1, 1) := by decide +kernel
theorem dX7_bearAll_72 : decode cX7_bearAll 72 = .ok (.iaload, 1) := by decide +kernel
theorem dX7_bearAll_73 : decode cX7_bearAll 73 = .ok (.aload_n 0, 1) := by decide +kernel
theorem dX7_bearAll_74 : decode cX7_bearAll 74 = .ok (.getfield 58, 3) := by decide +kernel
theorem dX7_bearAll_77 : decode cX7_bearAll 77 = .ok (.aload_n 0, 1) := by decide +kernel
theorem dX7_bearAll_78 : decode cX7_bearAll 78 = .ok (.getfield 44, 3) := by decide +kernel
theorem dX7_bearAll_81 : decode cX7_bearAll 81 = .ok (.iload_n 2, 1) := by decide +kernel
theorem dX7_bearAll_82 : decode cX7_bearAll 82 = .ok (.invokevirtual 222, 3) := by decide +kernel
theorem dX7_bearAll_85 : decode cX7_bearAll 85 = .ok (.imul, 1) := by decide +kernel
theorem dX7_bearAll_86 : decode cX7_bearAll 86 = .ok (.iadd, 1) := by decide +kernel
theorem dX7_bearAll_87 : decode cX7_bearAll 87 = .ok (.iastore, 1) := by decide +kernel
theorem dX7_bearAll_88 : decode cX7_bearAll 88 = .ok (.iinc 2 1, 3) := by decide +kernel
theorem dX7_bearAll_91 : decode cX7_bearAll 91 = .ok (.goto (-45), 3) := by decide +kernel
theorem dX7_bearAll_94 : decode cX7_bearAll 94 = .ok (.iinc 1 1, 3) := by decide +kernel
theorem dX7_bearAll_97 : decode cX7_bearAll 97 = .ok (.goto (-87), 3) := by decide +kernel
theorem dX7_bearAll_100 : decode cX7_bearAll 100 = .ok (.return_, 1) := by decide +kernel
set_option maxRecDepth 20000 in
theorem ggX7_findLeast_X7_loseEach : GoodIn wsX7_findLeast wsX7_loseEach := goodIn_r _ [9, 3, 1, 10, 11, 2, 12, 13, 14, 15, 16, 17, 18, 19, 20, 21, 22, 23, 24, 25, 26, 27, 28, 29, 30, 31, 32, 33, 34, 35, 36, 37, 38, 39, 40, 41, 42, 43, 44, 45, 46, 47, 48, 49, 50, 51, 52, 53, 54, 55, 56, 57, 58, 59, 60, 61, 62, 63, 64, 65, 66, 67, 68, 69, 70, 71, 72, 73, 74, 75, 76, 77, 78, 79, 80, 81, 82, 83, 84, 85, 86, 87, 88, 89, 90, 91, 92, 93, 94, 95, 96, 97, 98, 99, 100, 101, 102, 103, 104, 105, 106, 107, 108, 109, 110, 111, 112, 113, 114, 115, 116, 117, 118, 119, 120, 121, 122, 123] (by decide +kernel) (by decide +kernel)
set_option maxRecDepth 20000 in
theorem gX7_findLeast_X7_loseEach : GoodIn wsX7_findLeast (wsV RX7 165 RX7 yX7_loseEach wsX7_loseEach) := goodIn_app (goodIn_of _ (by decide +kernel)) ggX7_findLeast_X7_loseEach
theorem dX7_findLeast_0 : decode cX7_findLeast 0 = .ok (.aload_n 0, 1) := by decide +kernel
theorem dX7_findLeast_1 : decode cX7_findLeast 1 = .ok (.invokevirtual 165, 3) := by decide +kernel
theorem dX7_findLeast_4 : decode cX7_findLeast 4 = .ok (.iconst (-1), 1) := by decide +kernel
theorem dX7_findLeast_5 : decode cX7_findLeast 5 = .ok (.istore_n 1, 1) := by decide +kernel
theorem dX7_findLeast_6 : decode cX7_findLeast 6 = .ok (.iconst 0, 1) := by decide +kernel
theorem dX7_findLeast_7 : decode cX7_findLeast 7 = .ok (.istore_n 2, 1) := by decide +kernel
theorem dX7_findLeast_8 : decode cX7_findLeast 8 = .ok (.iload_n 2, 1) := by decide +kernel
theorem dX7_findLeast_9 : decode cX7_findLeast 9 = .ok (.aload_n 0, 1) := by decide +kernel
theorem dX7_findLeast_10 : decode cX7_findLeast 10 = .ok (.getfield 10, 3) := by decide +kernel
theorem dX7_findLeast_13 : decode cX7_findLeast 13 = .ok (.getfield 96, 3) := by decide +kernel
theorem dX7_findLeast_16 : decode cX7_findLeast 16 = .ok (.if_icmp .ge 67, 3) := by decide +kernel
theorem dX7_findLeast_19 : decode cX7_findLeast 19 = .ok (.iload_n 1, 1) := by decide +kernel
theorem dX7_findLeast_20 : decode cX7_findLeast 20 = .ok (.iconst (-1), 1) := by decide +kernel
theorem dX7_findLeast_21 : decode cX7_findLeast 21 = .ok (.if_icmp .eq 54, 3) := by decide +kernel
theorem dX7_findLeast_24 : decode cX7_findLeast 24 = .ok (.aload_n 0, 1) := by decide +kernel
theorem dX7_findLeast_25 : decode cX7_findLeast 25 = .ok (.getfield 73, 3) := by decide +kernel
theorem dX7_findLeast_28 : decode cX7_findLeast 28 = .ok (.iload_n 2, 1) := by decide +kernel
theorem dX7_findLeast_29 : decode cX7_findLeast 29 = .ok (.iaload, 1) := by decide +kernel
theorem dX7_findLeast_30 : decode cX7_findLeast 30 = .ok (.aload_n 0, 1) := by decide +kernel
theorem dX7_findLeast_31 : decode cX7_findLeast 31 = .ok (.getfield 73, 3) := by decide +kernel
theorem dX7_findLeast_34 : decode cX7_findLeast 34 = .ok (.iload_n 1, 1) := by decide +kernel
theorem dX7_findLeast_35 : decode cX7_findLeast 35 = .ok (.iaload, 1) := by decide +kernel
theorem dX7_findLeast_36 : decode cX7_findLeast 36 = .ok (.if_icmp .lt 39, 3) := by decide +kernel
theorem dX7_findLeast_39 : decode cX7_findLeast 39 = .ok (.aload_n 0, 1) := by decide +kernel
theorem dX7_findLeast_40 : decode cX7_findLeast 40 = .ok (.getfield 73, 3) := by decide +kernel
theorem dX7_findLeast_43 : decode cX7_findLeast 43 = .ok (.iload_n 2, 1) := by decide +kernel
theorem dX7_findLeast_44 : decode cX7_findLeast 44 = .ok (.iaload, 1) := by decide +kernel
theorem dX7_findLeast_45 : decode cX7_findLeast 45 = .ok (.aload_n 0, 1) := by decide +kernel
theorem dX7_findLeast_46 : decode cX7_findLeast 46 = .ok (.getfield 73, 3) := by decide +kernel
theorem dX7_findLeast_49 : decode cX7_findLeast 49 = .ok (.iload_n 1, 1) := by decide +kernel
theorem dX7_findLeast_50 : decode cX7_findLeast 50 = .ok (.iaload, 1) := by decide +kernel
theorem dX7_findLeast_51 : decode cX7_findLeast 51 = .ok (.if_icmp .ne 26, 3) := by decide +kernel
theorem dX7_findLeast_54 : decode cX7_findLeast 54 = .ok (.aload_n 0, 1) := by decide +kernel
theorem dX7_findLeast_55 : decode cX7_findLeast 55 = .ok (.getfield 10, 3) := by decide +kernel
theorem dX7_findLeast_58 : decode cX7_findLeast 58 = .ok (.getfield 103, 3) := by decide +kernel
theorem dX7_findLeast_61 : decode cX7_findLeast 61 = .ok (.iload_n 2, 1) := by decide +kernel
theorem dX7_findLeast_62 : decode cX7_findLeast 62 = .ok (.iaload, 1) := by decide +kernel
theorem dX7_findLeast_63 : decode cX7_findLeast 63 = .ok (.aload_n 0, 1) := by decide +kernel
theorem dX7_findLeast_64 : decode cX7_findLeast 64 = .ok (.getfield 10, 3) := by decide +kernel
theorem dX7_findLeast_67 : decode cX7_findLeast 67 = .ok (.getfield 103, 3) := by decide +kernel
theorem dX7_findLeast_70 : decode cX7_findLeast 70 = .ok (.iload_n 1, 1) := by decide +kernel
theorem dX7_findLeast_71 : decode cX7_findLeast 71 = .ok (.iaload, 1) := by decide +kernel
theorem dX7_findLeast_72 : decode cX7_findLeast 72 = .ok (.if_icmp .gt 5, 3) := by decide +kernel
theorem dX7_findLeast_75 : decode cX7_findLeast 75 = .ok (.iload_n 2, 1) := by decide +kernel
theorem dX7_findLeast_76 : decode cX7_findLeast 76 = .ok (.istore_n 1, 1) := by decide +kernel
theorem dX7_findLeast_77 : decode cX7_findLeast 77 = .ok (.iinc 2 1, 3) := by decide +kernel
theorem dX7_findLeast_80 : decode cX7_findLeast 80 = .ok (.goto (-72), 3) := by decide +kernel
theorem dX7_findLeast_83 : decode cX7_findLeast 83 = .ok (.iload_n 1, 1) := by decide +kernel
theorem dX7_findLeast_84 : decode cX7_findLeast 84 = .ok (.ireturn, 1) := by decide +kernel
set_option maxRecDepth 20000 in
theorem ggX7_findGrowing_X7_cutBest : GoodIn wsX7_findGrowing wsX7_cutBest := goodIn_r _ [19, 9, 5, 20, 21, 22, 23, 24, 25, 26, 27, 28, 29, 30, 31, 32, 33, 34, 35, 36, 37, 38, 39, 11, 12, 13, 40, 41, 42, 43, 44, 45, 46, 47, 48, 49, 50, 51, 52, 53, 54, 55, 56, 57, 58, 59, 60, 61, 62, 63, 64, 65, 66, 67, 68, 69, 70, 71, 72, 73, 74, 75, 76, 77, 78, 79, 80, 81, 82, 83, 84, 85, 86, 112, 113, 114, 115, 116, 117, 118, 119, 120, 121, 122, 123, 129, 130, 131, 132, 133, 134, 135, 136, 145, 146, 147, 148, 137, 138, 139, 140, 141, 142, 143, 144] (by decide +kernel) (by decide +kernel)
set_option maxRecDepth 20000 in
theorem gX7_findGrowing_X7_cutBest : GoodIn wsX7_findGrowing (wsV RX7 173 RX7 yX7_cutBest wsX7_cutBest) := goodIn_app (goodIn_of _ (by decide +kernel)) ggX7_findGrowing_X7_cutBest
set_option maxRecDepth 20000 in
theorem ggX7_findGrowing_X4_pieceAt : GoodIn wsX7_findGrowing wsX4_pieceAt := goodIn_r _ [76, 34, 46, 47, 23, 48, 145, 146, 147, 148] (by decide +kernel) (by decide +kernel)
set_option maxRecDepth 20000 in
theorem gX7_findGrowing_X4_pieceAt : GoodIn wsX7_findGrowing (wsV RX7 269 RX4 yX4_pieceAt wsX4_pieceAt) := goodIn_app (goodIn_of _ (by decide +kernel)) ggX7_findGrowing_X4_pieceAt
set_option maxRecDepth 20000 in
theorem ggX7_findGrowing_X7_partWeight : GoodIn wsX7_findGrowing wsX7_partWeight := goodIn_r _ [91, 5, 92, 3, 93, 112, 113, 114, 115, 116, 117, 118, 119, 120, 121, 122, 123, 137, 138, 139, 140, 141, 142, 143, 144, 129, 130, 131, 132, 133, 134, 135, 136] (by decide +kernel) (by decide +kernel)
set_option maxRecDepth 20000 in
theorem gX7_findGrowing_X7_partWeight : GoodIn wsX7_findGrowing (wsV RX7 272 RX7 yX7_partWeight wsX7_partWeight) := goodIn_app (goodIn_of _ (by decide +kernel)) ggX7_findGrowing_X7_partWeight
set_option maxRecDepth 20000 in
theorem ggX7_findGrowing_X4_textAt : GoodIn wsX7_findGrowing wsX4_textAt := goodIn_r _ [97, 33, 46, 47, 23, 48, 145, 146, 147, 148] (by decide +kernel) (by decide +kernel)
set_option maxRecDepth 20000 in
theorem gX7_findGrowing_X4_textAt : GoodIn wsX7_findGrowing (wsV RX7 278 RX4 yX4_textAt wsX4_textAt) := goodIn_app (goodIn_of _ (by decide +kernel)) ggX7_findGrowing_X4_textAt
set_option maxRecDepth 20000 in
theorem ggX7_findGrowing_X5_add : GoodIn wsX7_findGrowing wsX5_add := goodIn_r _ [102, 103, 104, 105, 106, 107, 124, 125, 126, 127, 128] (by decide +kernel) (by decide +kernel)
set_option maxRecDepth 20000 in
theorem gX7_findGrowing_X5_add : GoodIn wsX7_findGrowing (wsV RX7 281 RX5 yX5_add wsX5_add) := goodIn_app (goodIn_of _ (by decide +kernel)) ggX7_findGrowing_X5_add
set_option maxRecDepth 20000 in
theorem ggX7_findGrowing_X5_mostFrequent : GoodIn wsX7_findGrowing wsX5_mostFrequent := goodIn_r _ [111, 103, 105, 104, 124, 125, 126, 127, 128] (by decide +kernel) (by decide +kernel)
set_option maxRecDepth 20000 in
theorem gX7_findGrowing_X5_mostFrequent : GoodIn wsX7_findGrowing (wsV RX7 285 RX5 yX5_mostFrequent wsX5_mostFrequent) := goodIn_app (goodIn_of _ (by decide +kernel)) ggX7_findGrowing_X5_mostFrequent
theorem dX7_findGrowing_0 : decode cX7_findGrowing 0 = .ok (.aload_n 0, 1) := by decide +kernel
theorem dX7_findGrowing_1 : decode cX7_findGrowing 1 = .ok (.getfield 65, 3) := by decide +kernel
theorem dX7_findGrowing_4 : decode cX7_findGrowing 4 = .ok (.iconst 0, 1) := by decide +kernel
theorem dX7_findGrowing_5 : decode cX7_findGrowing 5 = .ok (.putfield 268, 3) := by decide +kernel
theorem dX7_findGrowing_8 : decode cX7_findGrowing 8 = .ok (.iconst 0, 1) := by decide +kernel
theorem dX7_findGrowing_9 : decode cX7_findGrowing 9 = .ok (.istore_n 1, 1) := by decide +kernel
theorem dX7_findGrowing_10 : decode cX7_findGrowing 10 = .ok (.iload_n 1, 1) := by decide +kernel
theorem dX7_findGrowing_11 : decode cX7_findGrowing 11 = .ok (.aload_n 0, 1) := by decide +kernel
theorem dX7_findGrowing_12 : decode cX7_findGrowing 12 = .ok (.getfield 10, 3) := by decide +kernel
theorem dX7_findGrowing_15 : decode cX7_findGrowing 15 = .ok (.getfield 113, 3) := by decide +kernel
theorem dX7_findGrowing_18 : decode cX7_findGrowing 18 = .ok (.if_icmp .ge 139, 3) := by decide +kernel
theorem dX7_findGrowing_21 : decode cX7_findGrowing 21 = .ok (.aload_n 0, 1) := by decide +kernel
theorem dX7_findGrowing_22 : decode cX7_findGrowing 22 = .ok (.aload_n 0, 1) := by decide +kernel
theorem dX7_findGrowing_23 : decode cX7_findGrowing 23 = .ok (.getfield 10, 3) := by decide +kernel
theorem dX7_findGrowing_26 : decode cX7_findGrowing 26 = .ok (.iload_n 1, 1) := by decide +kernel
theorem dX7_findGrowing_27 : decode cX7_findGrowing 27 = .ok (.invokevirtual 173, 3) := by decide +kernel
theorem dX7_findGrowing_30 : decode cX7_findGrowing 30 = .ok (.iconst 0, 1) := by decide +kernel
theorem dX7_findGrowing_31 : decode cX7_findGrowing 31 = .ok (.istore_n 2, 1) := by decide +kernel
theorem dX7_findGrowing_32 : decode cX7_findGrowing 32 = .ok (.iload_n 2, 1) := by decide +kernel
theorem dX7_findGrowing_33 : decode cX7_findGrowing 33 = .ok (.iconst 1, 1) := by decide +kernel
theorem dX7_findGrowing_34 : decode cX7_findGrowing 34 = .ok (.iadd, 1) := by decide +kernel
theorem dX7_findGrowing_35 : decode cX7_findGrowing 35 = .ok (.aload_n 0, 1) := by decide +kernel
theorem dX7_findGrowing_36 : decode cX7_findGrowing 36 = .ok (.getfield 51, 3) := by decide +kernel
theorem dX7_findGrowing_39 : decode cX7_findGrowing 39 = .ok (.getfield 180, 3) := by decide +kernel
theorem dX7_findGrowing_42 : decode cX7_findGrowing 42 = .ok (.if_icmp .ge 109, 3) := by decide +kernel
theorem dX7_findGrowing_45 : decode cX7_findGrowing 45 = .ok (.aload_n 0, 1) := by decide +kernel
theorem dX7_findGrowing_46 : decode cX7_findGrowing 46 = .ok (.getfield 51, 3) := by decide +kernel
theorem dX7_findGrowing_49 : decode cX7_findGrowing 49 = .ok (.getfield 216, 3) := by decide +kernel
theorem dX7_findGrowing_52 : decode cX7_findGrowing 52 = .ok (.iload_n 2, 1) := by decide +kernel
theorem dX7_findGrowing_53 : decode cX7_findGrowing 53 = .ok (.iaload, 1) := by decide +kernel
theorem dX7_findGrowing_54 : decode cX7_findGrowing 54 = .ok (.istore_n 3, 1) := by decide +kernel
theorem dX7_findGrowing_55 : decode cX7_findGrowing 55 = .ok (.aload_n 0, 1) := by decide +kernel
theorem dX7_findGrowing_56 : decode cX7_findGrowing 56 = .ok (.getfield 51, 3) := by decide +kernel
theorem dX7_findGrowing_59 : decode cX7_findGrowing 59 = .ok (.getfield 219, 3) := by decide +kernel
theorem dX7_findGrowing_62 : decode cX7_findGrowing 62 = .ok (.iload_n 2, 1) := by decide +kernel
theorem dX7_findGrowing_63 : decode cX7_findGrowing 63 = .ok (.iaload, 1) := by decide +kernel
theorem dX7_findGrowing_64 : decode cX7_findGrowing 64 = .ok (.aload_n 0, 1) := by decide +kernel
theorem dX7_findGrowing_65 : decode cX7_findGrowing 65 = .ok (.getfield 51, 3) := by decide +kernel
theorem dX7_findGrowing_68 : decode cX7_findGrowing 68 = .ok (.getfield 219, 3) := by decide +kernel
theorem dX7_findGrowing_71 : decode cX7_findGrowing 71 = .ok (.iload_n 2, 1) := by decide +kernel
theorem dX7_findGrowing_72 : decode cX7_findGrowing 72 = .ok (.iconst 1, 1) := by decide +kernel
theorem dX7_findGrowing_73 : decode cX7_findGrowing 73 = .ok (.iadd, 1) := by decide +kernel
theorem dX7_findGrowing_74 : decode cX7_findGrowing 74 = .ok (.iaload, 1) := by decide +kernel
theorem dX7_findGrowing_75 : decode cX7_findGrowing 75 = .ok (.iadd, 1) := by decide +kernel
theorem dX7_findGrowing_76 : decode cX7_findGrowing 76 = .ok (.istore 4, 2) := by decide +kernel
theorem dX7_findGrowing_78 : decode cX7_findGrowing 78 = .ok (.iload 4, 2) := by decide +kernel
theorem dX7_findGrowing_80 : decode cX7_findGrowing 80 = .ok (.iconst 4, 1) := by decide +kernel
theorem dX7_findGrowing_81 : decode cX7_findGrowing 81 = .ok (.if_icmp .gt 64, 3) := by decide +kernel
theorem dX7_findGrowing_84 : decode cX7_findGrowing 84 = .ok (.aload_n 0, 1) := by decide +kernel
theorem dX7_findGrowing_85 : decode cX7_findGrowing 85 = .ok (.getfield 44, 3) := by decide +kernel
theorem dX7_findGrowing_88 : decode cX7_findGrowing 88 = .ok (.iload_n 3, 1) := by decide +kernel
theorem dX7_findGrowing_89 : decode cX7_findGrowing 89 = .ok (.iload 4, 2) := by decide +kernel
theorem dX7_findGrowing_91 : decode cX7_findGrowing 91 = .ok (.invokevirtual 269, 3) := by decide +kernel
theorem dX7_findGrowing_94 : decode cX7_findGrowing 94 = .ok (.iconst (-1), 1) := by decide +kernel
theorem dX7_findGrowing_95 : decode cX7_findGrowing 95 = .ok (.if_icmp .ne 50, 3) := by decide +kernel
theorem dX7_findGrowing_98 : decode cX7_findGrowing 98 = .ok (.aload_n 0, 1) := by decide +kernel
theorem dX7_findGrowing_99 : decode cX7_findGrowing 99 = .ok (.iload_n 2, 1) := by decide +kernel
theorem dX7_findGrowing_100 : decode cX7_findGrowing 100 = .ok (.invokevirtual 272, 3) := by decide +kernel
theorem dX7_findGrowing_103 : decode cX7_findGrowing 103 = .ok (.aload_n 0, 1) := by decide +kernel
theorem dX7_findGrowing_104 : decode cX7_findGrowing 104 = .ok (.iload_n 2, 1) := by decide +kernel
theorem dX7_findGrowing_105 : decode cX7_findGrowing 105 = .ok (.iconst 1, 1) := by decide +kernel
theorem dX7_findGrowing_106 : decode cX7_findGrowing 106 = .ok (.iadd, 1) := by decide +kernel
theorem dX7_findGrowing_107 : decode cX7_findGrowing 107 = .ok (.invokevirtual 272, 3) := by decide +kernel
theorem dX7_findGrowing_110 : decode cX7_findGrowing 110 = .ok (.invokestatic 275, 3) := by decide +kernel
theorem dX7_findGrowing_113 : decode cX7_findGrowing 113 = .ok (.istore 5, 2) := by decide +kernel
theorem dX7_findGrowing_115 : decode cX7_findGrowing 115 = .ok (.aload_n 0, 1) := by decide +kernel
theorem dX7_findGrowing_116 : decode cX7_findGrowing 116 = .ok (.getfield 65, 3) := by decide +kernel
theorem dX7_findGrowing_119 : decode cX7_findGrowing 119 = .ok (.aload_n 0, 1) := by decide +kernel
theorem dX7_findGrowing_120 : decode cX7_findGrowing 120 = .ok (.getfield 44, 3) := by decide +kernel
theorem dX7_findGrowing_123 : decode cX7_findGrowing 123 = .ok (.iload_n 3, 1) := by decide +kernel
theorem dX7_findGrowing_124 : decode cX7_findGrowing 124 = .ok (.iload 4, 2) := by decide +kernel
theorem dX7_findGrowing_126 : decode cX7_findGrowing 126 = .ok (.invokevirtual 278, 3) := by decide +kernel
theorem dX7_findGrowing_129 : decode cX7_findGrowing 129 = .ok (.iload 4, 2) := by decide +kernel
theorem dX7_findGrowing_131 : decode cX7_findGrowing 131 = .ok (.iload 5, 2) := by decide +kernel
theorem dX7_findGrowing_133 : decode cX7_findGrowing 133 = .ok (.aload_n 0, 1) := by decide +kernel
theorem dX7_findGrowing_134 : decode cX7_findGrowing 134 = .ok (.getfield 10, 3) := by decide +kernel
theorem dX7_findGrowing_137 : decode cX7_findGrowing 137 = .ok (.getfield 123, 3) := by decide +kernel
theorem dX7_findGrowing_140 : decode cX7_findGrowing 140 = .ok (.iload_n 1, 1) := by decide +kernel
theorem dX7_findGrowing_141 : decode cX7_findGrowing 141 = .ok (.iaload, 1) := by decide +kernel
theorem dX7_findGrowing_142 : decode cX7_findGrowing 142 = .ok (.invokevirtual 281, 3) := by decide +kernel
theorem dX7_findGrowing_145 : decode cX7_findGrowing 145 = .ok (.iinc 2 1, 3) := by decide +kernel
theorem dX7_findGrowing_148 : decode cX7_findGrowing 148 = .ok (.goto (-116), 3) := by decide +kernel
theorem dX7_findGrowing_151 : decode cX7_findGrowing 151 = .ok (.iinc 1 1, 3) := by decide +kernel
theorem dX7_findGrowing_154 : decode cX7_findGrowing 154 = .ok (.goto (-144), 3) := by decide +kernel
theorem dX7_findGrowing_157 : decode cX7_findGrowing 157 = .ok (.aload_n 0, 1) := by decide +kernel
theorem dX7_findGrowing_158 : decode cX7_findGrowing 158 = .ok (.getfield 65, 3) := by decide +kernel
theorem dX7_findGrowing_161 : decode cX7_findGrowing 161 = .ok (.invokevirtual 285, 3) := by decide +kernel
theorem dX7_findGrowing_164 : decode cX7_findGrowing 164 = .ok (.ireturn, 1) := by decide +kernel
theorem dX7_partWeight_0 : decode cX7_partWeight 0 = .ok (.aload_n 0, 1) := by decide +kernel
theorem dX7_partWeight_1 : decode cX7_partWeight 1 = .ok (.getfield 51, 3) := by decide +kernel
theorem dX7_partWeight_4 : decode cX7_partWeight 4 = .ok (.getfield 213, 3) := by decide +kernel
theorem dX7_partWeight_7 : decode cX7_partWeight 7 = .ok (.iload_n 1, 1) := by decide +kernel
theorem dX7_partWeight_8 : decode cX7_partWeight 8 = .ok (.iaload, 1) := by decide +kernel
theorem dX7_partWeight_9 : decode cX7_partWeight 9 = .ok (.istore_n 2, 1) := by decide +kernel
theorem dX7_partWeight_10 : decode cX7_partWeight 10 = .ok (.iload_n 2, 1) := by decide +kernel
theorem dX7_partWeight_11 : decode cX7_partWeight 11 = .ok (.iconst (-1), 1) := by decide +kernel
theorem dX7_partWeight_12 : decode cX7_partWeight 12 = .ok (.if_icmp .ne 7, 3) := by decide +kernel
theorem dX7_partWeight_15 : decode cX7_partWeight 15 = .ok (.iconst 1, 1) := by decide +kernel
theorem dX7_partWeight_16 : decode cX7_partWeight 16 = .ok (.goto 12, 3) := by decide +kernel
theorem dX7_partWeight_19 : decode cX7_partWeight 19 = .ok (.aload_n 0, 1) := by decide +kernel
theorem dX7_partWeight_20 : decode cX7_partWeight 20 = .ok (.getfield 10, 3) := by decide +kernel
theorem dX7_partWeight_23 : decode cX7_partWeight 23 = .ok (.getfield 103, 3) := by decide +kernel
theorem dX7_partWeight_26 : decode cX7_partWeight 26 = .ok (.iload_n 2, 1) := by decide +kernel
theorem dX7_partWeight_27 : decode cX7_partWeight 27 = .ok (.iaload, 1) := by decide +kernel
theorem dX7_partWeight_28 : decode cX7_partWeight 28 = .ok (.ireturn, 1) := by decide +kernel
theorem dX8_init_0 : decode cX8_init 0 = .ok (.aload_n 0, 1) := by decide +kernel
theorem dX8_init_1 : decode cX8_init 1 = .ok (.invokespecial 1, 3) := by decide +kernel
theorem dX8_init_4 : decode cX8_init 4 = .ok (.aload_n 0, 1) := by decide +kernel
theorem dX8_init_5 : decode cX8_init 5 = .ok (.sipush 210, 3) := by decide +kernel
theorem dX8_init_8 : decode cX8_init 8 = .ok (.newarray .int, 2) := by decide +kernel
theorem dX8_init_10 : decode cX8_init 10 = .ok (.putfield 7, 3) := by decide +kernel
theorem dX8_init_13 : decode cX8_init 13 = .ok (.aload_n 0, 1) := by decide +kernel
theorem dX8_init_14 : decode cX8_init 14 = .ok (.sipush 210, 3) := by decide +kernel
theorem dX8_init_17 : decode cX8_init 17 = .ok (.newarray .int, 2) := by decide +kernel
theorem dX8_init_19 : decode cX8_init 19 = .ok (.putfield 13, 3) := by decide +kernel
theorem dX8_init_22 : decode cX8_init 22 = .ok (.aload_n 0, 1) := by decide +kernel
theorem dX8_init_23 : decode cX8_init 23 = .ok (.sipush 1260, 3) := by decide +kernel
theorem dX8_init_26 : decode cX8_init 26 = .ok (.newarray .int, 2) := by decide +kernel
theorem dX8_init_28 : decode cX8_init 28 = .ok (.putfield 16, 3) := by decide +kernel
theorem dX8_init_31 : decode cX8_init 31 = .ok (.aload_n 0, 1) := by decide +kernel
theorem dX8_init_32 : decode cX8_init 32 = .ok (.sipush 420, 3) := by decide +kernel
theorem dX8_init_35 : decode cX8_init 35 = .ok (.newarray .int, 2) := by decide +kernel
theorem dX8_init_37 : decode cX8_init 37 = .ok (.putfield 19, 3) := by decide +kernel
theorem dX8_init_40 : decode cX8_init 40 = .ok (.aload_n 0, 1) := by decide +kernel
theorem dX8_init_41 : decode cX8_init 41 = .ok (.iconst 2, 1) := by decide +kernel
theorem dX8_init_42 : decode cX8_init 42 = .ok (.newarray .int, 2) := by decide +kernel
theorem dX8_init_44 : decode cX8_init 44 = .ok (.putfield 22, 3) := by decide +kernel
theorem dX8_init_47 : decode cX8_init 47 = .ok (.aload_n 0, 1) := by decide +kernel
theorem dX8_init_48 : decode cX8_init 48 = .ok (.bipush 16, 2) := by decide +kernel
theorem dX8_init_50 : decode cX8_init 50 = .ok (.newarray .int, 2) := by decide +kernel
theorem dX8_init_52 : decode cX8_init 52 = .ok (.putfield 25, 3) := by decide +kernel
theorem dX8_init_55 : decode cX8_init 55 = .ok (.aload_n 0, 1) := by decide +kernel
theorem dX8_init_56 : decode cX8_init 56 = .ok (.bipush 13, 2) := by decide +kernel
theorem dX8_init_58 : decode cX8_init 58 = .ok (.newarray .long, 2) := by decide +kernel
theorem dX8_init_60 : decode cX8_init 60 = .ok (.putfield 28, 3) := by decide +kernel
theorem dX8_init_63 : decode cX8_init 63 = .ok (.aload_n 0, 1) := by decide +kernel
theorem dX8_init_64 : decode cX8_init 64 = .ok (.bipush 13, 2) := by decide +kernel
theorem dX8_init_66 : decode cX8_init 66 = .ok (.newarray .int, 2) := by decide +kernel
theorem dX8_init_68 : decode cX8_init 68 = .ok (.putfield 32, 3) := by decide +kernel
theorem dX8_init_71 : decode cX8_init 71 = .ok (.aload_n 0, 1) := by decide +kernel
theorem dX8_init_72 : decode cX8_init 72 = .ok (.bipush 13, 2) := by decide +kernel
theorem dX8_init_74 : decode cX8_init 74 = .ok (.newarray .int, 2) := by decide +kernel
theorem dX8_init_76 : decode cX8_init 76 = .ok (.putfield 35, 3) := by decide +kernel
theorem dX8_init_79 : decode cX8_init 79 = .ok (.aload_n 0, 1) := by decide +kernel
theorem dX8_init_80 : decode cX8_init 80 = .ok (.bipush 13, 2) := by decide +kernel
theorem dX8_init_82 : decode cX8_init 82 = .ok (.newarray .long, 2) := by decide +kernel
theorem dX8_init_84 : decode cX8_init 84 = .ok (.putfield 38, 3) := by decide +kernel
theorem dX8_init_87 : decode cX8_init 87 = .ok (.aload_n 0, 1) := by decide +kernel
theorem dX8_init_88 : decode cX8_init 88 = .ok (.bipush 13, 2) := by decide +kernel
theorem dX8_init_90 : decode cX8_init 90 = .ok (.newarray .long, 2) := by decide +kernel
theorem dX8_init_92 : decode cX8_init 92 = .ok (.putfield 41, 3) := by decide +kernel
theorem dX8_init_95 : decode cX8_init 95 = .ok (.aload_n 0, 1) := by decide +kernel
theorem dX8_init_96 : decode cX8_init 96 = .ok (.bipush 88, 2) := by decide +kernel
theorem dX8_init_98 : decode cX8_init 98 = .ok (.newarray .int, 2) := by decide +kernel
theorem dX8_init_100 : decode cX8_init 100 = .ok (.putfield 44, 3) := by decide +kernel
theorem dX8_init_103 : decode cX8_init 103 = .ok (.aload_n 0, 1) := by decide +kernel
theorem dX8_init_104 : decode cX8_init 104 = .ok (.bipush 88, 2) := by decide +kernel
theorem dX8_init_106 : decode cX8_init 106 = .ok (.newarray .int, 2) := by decide +kernel
theorem dX8_init_108 : decode cX8_init 108 = .ok (.putfield 47, 3) := by decide +kernel
theorem dX8_init_111 : decode cX8_init 111 = .ok (.aload_n 0, 1) := by decide +kernel
theorem dX8_init_112 : decode cX8_init 112 = .ok (.bipush 88, 2) := by decide +kernel
theorem dX8_init_114 : decode cX8_init 114 = .ok (.newarray .int, 2) := by decide +kernel
theorem dX8_init_116 : decode cX8_init 116 = .ok (.putfield 50, 3) := by decide +kernel
theorem dX8_init_119 : decode cX8_init 119 = .ok (.aload_n 0, 1) := by decide +kernel
theorem dX8_init_120 : decode cX8_init 120 = .ok (.bipush 16, 2) := by decide +kernel
theorem dX8_init_122 : decode cX8_init 122 = .ok (.newarray .int, 2) := by decide +kernel
theorem dX8_init_124 : decode cX8_init 124 = .ok (.putfield 53, 3) := by decide +kernel
theorem dX8_init_127 : decode cX8_init 127 = .ok (.aload_n 0, 1) := by decide +kernel
theorem dX8_init_128 : decode cX8_init 128 = .ok (.getfield 7, 3) := by decide +kernel
theorem dX8_init_131 : decode cX8_init 131 = .ok (.iconst 0, 1) := by decide +kernel
theorem dX8_init_132 : decode cX8_init 132 = .ok (.iconst 0, 1) := by decide +kernel
theorem dX8_init_133 : decode cX8_init 133 = .ok (.iastore, 1) := by decide +kernel
theorem dX8_init_134 : decode cX8_init 134 = .ok (.return_, 1) := by decide +kernel
theorem dX8_copy_0 : decode cX8_copy 0 = .ok (.iconst 0, 1) := by decide +kernel
theorem dX8_copy_1 : decode cX8_copy 1 = .ok (.istore 4, 2) := by decide +kernel
theorem dX8_copy_3 : decode cX8_copy 3 = .ok (.iload 4, 2) := by decide +kernel
theorem dX8_copy_5 : decode cX8_copy 5 = .ok (.sipush 210, 3) := by decide +kernel
theorem dX8_copy_8 : decode cX8_copy 8 = .ok (.if_icmp .ge 21, 3) := by decide +kernel
theorem dX8_copy_11 : decode cX8_copy 11 = .ok (.aload_n 2, 1) := by decide +kernel
theorem dX8_copy_12 : decode cX8_copy 12 = .ok (.iload_n 3, 1) := by decide +kernel
theorem dX8_copy_13 : decode cX8_copy 13 = .ok (.iload 4, 2) := by decide +kernel
theorem dX8_copy_15 : decode cX8_copy 15 = .ok (.iadd, 1) := by decide +kernel
theorem dX8_copy_16 : decode cX8_copy 16 = .ok (.aload_n 0, 1) := by decide +kernel
theorem dX8_copy_17 : decode cX8_copy 17 = .ok (.iload_n 1, 1) := by decide +kernel
theorem dX8_copy_18 : decode cX8_copy 18 = .ok (.iload 4, 2) := by decide +kernel
theorem dX8_copy_20 : decode cX8_copy 20 = .ok (.iadd, 1) := by decide +kernel
theorem dX8_copy_21 : decode cX8_copy 21 = .ok (.iaload, 1) := by decide +kernel
theorem dX8_copy_22 : decode cX8_copy 22 = .ok (.iastore, 1) := by decide +kernel
theorem dX8_copy_23 : decode cX8_copy 23 = .ok (.iinc 4 1, 3) := by decide +kernel
theorem dX8_copy_26 : decode cX8_copy 26 = .ok (.goto (-23), 3) := by decide +kernel
theorem dX8_copy_29 : decode cX8_copy 29 = .ok (.return_, 1) := by decide +kernel
theorem dX8_within_0 : decode cX8_within 0 = .ok (.iload_n 0, 1) := by decide +kernel
theorem dX8_within_1 : decode cX8_within 1 = .ok (.iload_n 1, 1) := by decide +kernel
theorem dX8_within_2 : decode cX8_within 2 = .ok (.if_icmp .lt 12, 3) := by decide +kernel
theorem dX8_within_5 : decode cX8_within 5 = .ok (.iload_n 0, 1) := by decide +kernel
theorem dX8_within_6 : decode cX8_within 6 = .ok (.iload_n 2, 1) := by decide +kernel
theorem dX8_within_7 : decode cX8_within 7 = .ok (.if_icmp .gt 7, 3) := by decide +kernel
theorem dX8_within_10 : decode cX8_within 10 = .ok (.iconst 1, 1) := by decide +kernel
theorem dX8_within_11 : decode cX8_within 11 = .ok (.goto 4, 3) := by decide +kernel
theorem dX8_within_14 : decode cX8_within 14 = .ok (.iconst 0, 1) := by decide +kernel
theorem dX8_within_15 : decode cX8_within 15 = .ok (.ireturn, 1) := by decide +kernel
set_option maxRecDepth 20000 in
theorem ggX8_record_X8_copy : GoodIn wsX8_record wsX8_copy := goodIn_r _ [7] (by decide +kernel) (by decide +kernel)
set_option maxRecDepth 20000 in
theorem gX8_record_X8_copy : GoodIn wsX8_record (va_wsS RX8 60 yX8_copy wsX8_copy) := goodIn_app (goodIn_of _ (by decide +kernel)) ggX8_record_X8_copy
theorem dX8_record_0 : decode cX8_record 0 = .ok (.aload_n 0, 1) := by decide +kernel
theorem dX8_record_1 : decode cX8_record 1 = .ok (.getfield 56, 3) := by decide +kernel
theorem dX8_record_4 : decode cX8_record 4 = .ok (.bipush 6, 2) := by decide +kernel
theorem dX8_record_6 : decode cX8_record 6 = .ok (.if_icmp .ne 44, 3) := by decide +kernel
theorem dX8_record_9 : decode cX8_record 9 = .ok (.iconst 0, 1) := by decide +kernel
theorem dX8_record_10 : decode cX8_record 10 = .ok (.istore_n 1, 1) := by decide +kernel
theorem dX8_record_11 : decode cX8_record 11 = .ok (.iload_n 1, 1) := by decide +kernel
theorem dX8_record_12 : decode cX8_record 12 = .ok (.sipush 1050, 3) := by decide +kernel
theorem dX8_record_15 : decode cX8_record 15 = .ok (.if_icmp .ge 25, 3) := by decide +kernel
theorem dX8_record_18 : decode cX8_record 18 = .ok (.aload_n 0, 1) := by decide +kernel
theorem dX8_record_19 : decode cX8_record 19 = .ok (.getfield 16, 3) := by decide +kernel
theorem dX8_record_22 : decode cX8_record 22 = .ok (.iload_n 1, 1) := by decide +kernel
theorem dX8_record_23 : decode cX8_record 23 = .ok (.aload_n 0, 1) := by decide +kernel
theorem dX8_record_24 : decode cX8_record 24 = .ok (.getfield 16, 3) := by decide +kernel
theorem dX8_record_27 : decode cX8_record 27 = .ok (.iload_n 1, 1) := by decide +kernel
theorem dX8_record_28 : decode cX8_record 28 = .ok (.sipush 210, 3) := by decide +kernel
theorem dX8_record_31 : decode cX8_record 31 = .ok (.iadd, 1) := by decide +kernel
theorem dX8_record_32 : decode cX8_record 32 = .ok (.iaload, 1) := by decide +kernel
theorem dX8_record_33 : decode cX8_record 33 = .ok (.iastore, 1) := by decide +kernel
theorem dX8_record_34 : decode cX8_record 34 = .ok (.iinc 1 1, 3) := by decide +kernel
theorem dX8_record_37 : decode cX8_record 37 = .ok (.goto (-26), 3) := by decide +kernel
theorem dX8_record_40 : decode cX8_record 40 = .ok (.aload_n 0, 1) := by decide +kernel
theorem dX8_record_41 : decode cX8_record 41 = .ok (.dup, 1) := by decide +kernel
theorem dX8_record_42 : decode cX8_record 42 = .ok (.getfield 56, 3) := by decide +kernel
theorem dX8_record_45 : decode cX8_record 45 = .ok (.iconst 1, 1) := by decide +kernel
theorem dX8_record_46 : decode cX8_record 46 = .ok (.isub, 1) := by decide +kernel
theorem dX8_record_47 : decode cX8_record 47 = .ok (.putfield 56, 3) := by decide +kernel
theorem dX8_record_50 : decode cX8_record 50 = .ok (.aload_n 0, 1) := by decide +kernel
theorem dX8_record_51 : decode cX8_record 51 = .ok (.getfield 7, 3) := by decide +kernel
theorem dX8_record_54 : decode cX8_record 54 = .ok (.iconst 0, 1) := by decide +kernel
theorem dX8_record_55 : decode cX8_record 55 = .ok (.aload_n 0, 1) := by decide +kernel
theorem dX8_record_56 : decode cX8_record 56 = .ok (.getfield 16, 3) := by decide +kernel
theorem dX8_record_59 : decode cX8_record 59 = .ok (.aload_n 0, 1) := by decide +kernel
theorem dX8_record_60 : decode cX8_record 60 = .ok (.getfield 56, 3) := by decide +kernel
theorem dX8_record_63 : decode cX8_record 63 = .ok (.sipush 210, 3) := by decide +kernel
theorem dX8_record_66 : decode cX8_record 66 = .ok (.imul, 1) := by decide +kernel
theorem dX8_record_67 : decode cX8_record 67 = .ok (.invokestatic 60, 3) := by decide +kernel
theorem dX8_record_70 : decode cX8_record 70 = .ok (.aload_n 0, 1) := by decide +kernel
theorem dX8_record_71 : decode cX8_record 71 = .ok (.dup, 1) := by decide +kernel
theorem dX8_record_72 : decode cX8_record 72 = .ok (.getfield 56, 3) := by decide +kernel
theorem dX8_record_75 : decode cX8_record 75 = .ok (.iconst 1, 1) := by decide +kernel
theorem dX8_record_76 : decode cX8_record 76 = .ok (.iadd, 1) := by decide +kernel
theorem dX8_record_77 : decode cX8_record 77 = .ok (.putfield 56, 3) := by decide +kernel
theorem dX8_record_80 : decode cX8_record 80 = .ok (.return_, 1) := by decide +kernel
set_option maxRecDepth 20000 in
theorem ggX8_isPiece_X8_within : GoodIn wsX8_isPiece wsX8_within := goodIn_r _ [5] (by decide +kernel) (by decide +kernel)
set_option maxRecDepth 20000 in
theorem gX8_isPiece_X8_within : GoodIn wsX8_isPiece (va_wsS RX8 64 yX8_within wsX8_within) := goodIn_app (goodIn_of _ (by decide +kernel)) ggX8_isPiece_X8_within
theorem dX8_isPiece_0 : decode cX8_isPiece 0 = .ok (.iload_n 1, 1) := by decide +kernel
theorem dX8_isPiece_1 : decode cX8_isPiece 1 = .ok (.iconst 0, 1) := by decide +kernel
theorem dX8_isPiece_2 : decode cX8_isPiece 2 = .ok (.aload_n 0, 1) := by decide +kernel
theorem dX8_isPiece_3 : decode cX8_isPiece 3 = .ok (.getfield 7, 3) := by decide +kernel
theorem dX8_isPiece_6 : decode cX8_isPiece 6 = .ok (.iconst 0, 1) := by decide +kernel
theorem dX8_isPiece_7 : decode cX8_isPiece 7 = .ok (.iaload, 1) := by decide +kernel
theorem dX8_isPiece_8 : decode cX8_isPiece 8 = .ok (.iconst 1, 1) := by decide +kernel
theorem dX8_isPiece_9 : decode cX8_isPiece 9 = .ok (.isub, 1) := by decide +kernel
theorem dX8_isPiece_10 : decode cX8_isPiece 10 = .ok (.invokestatic 64, 3) := by decide +kernel
theorem dX8_isPiece_13 : decode cX8_isPiece 13 = .ok (.ireturn, 1) := by decide +kernel
set_option maxRecDepth 20000 in
theorem ggX8_isWord_X8_within : GoodIn wsX8_isWord wsX8_within := goodIn_r _ [5] (by decide +kernel) (by decide +kernel)
set_option maxRecDepth 20000 in
theorem gX8_isWord_X8_within : GoodIn wsX8_isWord (va_wsS RX8 64 yX8_within wsX8_within) := goodIn_app (goodIn_of _ (by decide +kernel)) ggX8_isWord_X8_within
theorem dX8_isWord_0 : decode cX8_isWord 0 = .ok (.iload_n 1, 1) := by decide +kernel
theorem dX8_isWord_1 : decode cX8_isWord 1 = .ok (.iconst 0, 1) := by decide +kernel
theorem dX8_isWord_2 : decode cX8_isWord 2 = .ok (.aload_n 0, 1) := by decide +kernel
theorem dX8_isWord_3 : decode cX8_isWord 3 = .ok (.getfield 7, 3) := by decide +kernel
theorem dX8_isWord_6 : decode cX8_isWord 6 = .ok (.iconst 1, 1) := by decide +kernel
theorem dX8_isWord_7 : decode cX8_isWord 7 = .ok (.iaload, 1) := by decide +kernel
theorem dX8_isWord_8 : decode cX8_isWord 8 = .ok (.iconst 1, 1) := by decide +kernel
theorem dX8_isWord_9 : decode cX8_isWord 9 = .ok (.isub, 1) := by decide +kernel
theorem dX8_isWord_10 : decode cX8_isWord 10 = .ok (.invokestatic 64, 3) := by decide +kernel
theorem dX8_isWord_13 : decode cX8_isWord 13 = .ok (.ireturn, 1) := by decide +kernel
theorem dX8_piecePart_0 : decode cX8_piecePart 0 = .ok (.aload_n 0, 1) := by decide +kernel
theorem dX8_piecePart_1 : decode cX8_piecePart 1 = .ok (.getfield 7, 3) := by decide +kernel
theorem dX8_piecePart_4 : decode cX8_piecePart 4 = .ok (.iconst 2, 1) := by decide +kernel
theorem dX8_piecePart_5 : decode cX8_piecePart 5 = .ok (.bipush 6, 2) := by decide +kernel
theorem dX8_piecePart_7 : decode cX8_piecePart 7 = .ok (.iload_n 1, 1) := by decide +kernel
theorem dX8_piecePart_8 : decode cX8_piecePart 8 = .ok (.imul, 1) := by decide +kernel
theorem dX8_piecePart_9 : decode cX8_piecePart 9 = .ok (.iadd, 1) := by decide +kernel
theorem dX8_piecePart_10 : decode cX8_piecePart 10 = .ok (.iload_n 2, 1) := by decide +kernel
theorem dX8_piecePart_11 : decode cX8_piecePart 11 = .ok (.iadd, 1) := by decide +kernel
theorem dX8_piecePart_12 : decode cX8_piecePart 12 = .ok (.iaload, 1) := by decide +kernel
theorem dX8_piecePart_13 : decode cX8_piecePart 13 = .ok (.ireturn, 1) := by decide +kernel
theorem dX8_wordPart_0 : decode cX8_wordPart 0 = .ok (.aload_n 0, 1) := by decide +kernel
theorem dX8_wordPart_1 : decode cX8_wordPart 1 = .ok (.getfield 7, 3) := by decide +kernel
theorem dX8_wordPart_4 : decode cX8_wordPart 4 = .ok (.bipush 98, 2) := by decide +kernel
theorem dX8_wordPart_6 : decode cX8_wordPart 6 = .ok (.bipush 14, 2) := by decide +kernel
theorem dX8_wordPart_8 : decode cX8_wordPart 8 = .ok (.iload_n 1, 1) := by decide +kernel
theorem dX8_wordPart_9 : decode cX8_wordPart 9 = .ok (.imul, 1) := by decide +kernel
theorem dX8_wordPart_10 : decode cX8_wordPart 10 = .ok (.iadd, 1) := by decide +kernel
theorem dX8_wordPart_11 : decode cX8_wordPart 11 = .ok (.iload_n 2, 1) := by decide +kernel
theorem dX8_wordPart_12 : decode cX8_wordPart 12 = .ok (.iadd, 1) := by decide +kernel
theorem dX8_wordPart_13 : decode cX8_wordPart 13 = .ok (.iaload, 1) := by decide +kernel
theorem dX8_wordPart_14 : decode cX8_wordPart 14 = .ok (.ireturn, 1) := by decide +kernel
set_option maxRecDepth 20000 in
theorem ggX8_textOf_X8_piecePart : GoodIn wsX8_textOf wsX8_piecePart := goodIn_r _ [5, 6, 7, 8, 9, 10, 11, 12, 13, 14, 15, 16, 17, 18, 19, 20, 21, 22, 23, 24] (by decide +kernel) (by decide +kernel)
set_option maxRecDepth 20000 in
theorem gX8_textOf_X8_piecePart : GoodIn wsX8_textOf (wsV RX8 68 RX8 yX8_piecePart wsX8_piecePart) := goodIn_app (goodIn_of _ (by decide +kernel)) ggX8_textOf_X8_piecePart
theorem dX8_textOf_0 : decode cX8_textOf 0 = .ok (.iconst 0, 1) := by decide +kernel
theorem dX8_textOf_1 : decode cX8_textOf 1 = .ok (.istore_n 2, 1) := by decide +kernel
theorem dX8_textOf_2 : decode cX8_textOf 2 = .ok (.iconst 0, 1) := by decide +kernel
theorem dX8_textOf_3 : decode cX8_textOf 3 = .ok (.istore_n 3, 1) := by decide +kernel
theorem dX8_textOf_4 : decode cX8_textOf 4 = .ok (.iload_n 3, 1) := by decide +kernel
theorem dX8_textOf_5 : decode cX8_textOf 5 = .ok (.aload_n 0, 1) := by decide +kernel
theorem dX8_textOf_6 : decode cX8_textOf 6 = .ok (.iload_n 1, 1) := by decide +kernel
theorem dX8_textOf_7 : decode cX8_textOf 7 = .ok (.iconst 0, 1) := by decide +kernel
theorem dX8_textOf_8 : decode cX8_textOf 8 = .ok (.invokevirtual 68, 3) := by decide +kernel
theorem dX8_textOf_11 : decode cX8_textOf 11 = .ok (.if_icmp .ge 23, 3) := by decide +kernel
theorem dX8_textOf_14 : decode cX8_textOf 14 = .ok (.bipush 7, 2) := by decide +kernel
theorem dX8_textOf_16 : decode cX8_textOf 16 = .ok (.iload_n 2, 1) := by decide +kernel
theorem dX8_textOf_17 : decode cX8_textOf 17 = .ok (.imul, 1) := by decide +kernel
theorem dX8_textOf_18 : decode cX8_textOf 18 = .ok (.aload_n 0, 1) := by decide +kernel
theorem dX8_textOf_19 : decode cX8_textOf 19 = .ok (.iload_n 1, 1) := by decide +kernel
theorem dX8_textOf_20 : decode cX8_textOf 20 = .ok (.iconst 2, 1) := by decide +kernel
theorem dX8_textOf_21 : decode cX8_textOf 21 = .ok (.iload_n 3, 1) := by decide +kernel
theorem dX8_textOf_22 : decode cX8_textOf 22 = .ok (.iadd, 1) := by decide +kernel
theorem dX8_textOf_23 : decode cX8_textOf 23 = .ok (.invokevirtual 68, 3) := by decide +kernel
theorem dX8_textOf_26 : decode cX8_textOf 26 = .ok (.iadd, 1) := by decide +kernel
theorem dX8_textOf_27 : decode cX8_textOf 27 = .ok (.istore_n 2, 1) := by decide +kernel
theorem dX8_textOf_28 : decode cX8_textOf 28 = .ok (.iinc 3 1, 3) := by decide +kernel
theorem dX8_textOf_31 : decode cX8_textOf 31 = .ok (.goto (-27), 3) := by decide +kernel
theorem dX8_textOf_34 : decode cX8_textOf 34 = .ok (.iload_n 2, 1) := by decide +kernel
theorem dX8_textOf_35 : decode cX8_textOf 35 = .ok (.ireturn, 1) := by decide +kernel
set_option maxRecDepth 20000 in
theorem ggX8_textIn_X8_wordPart : GoodIn wsX8_textIn wsX8_wordPart := goodIn_r _ [5, 6, 7, 8, 9, 10, 11, 12, 13, 14, 15, 16, 17, 18, 19, 20, 21, 22, 23, 24] (by decide +kernel) (by decide +kernel)
set_option maxRecDepth 20000 in
theorem gX8_textIn_X8_wordPart : GoodIn wsX8_textIn (wsV RX8 72 RX8 yX8_wordPart wsX8_wordPart) := goodIn_app (goodIn_of _ (by decide +kernel)) ggX8_textIn_X8_wordPart
theorem dX8_textIn_0 : decode cX8_textIn 0 = .ok (.iconst 0, 1) := by decide +kernel
theorem dX8_textIn_1 : decode cX8_textIn 1 = .ok (.istore 4, 2) := by decide +kernel
theorem dX8_textIn_3 : decode cX8_textIn 3 = .ok (.iconst 0, 1) := by decide +kernel
theorem dX8_textIn_4 : decode cX8_textIn 4 = .ok (.istore 5, 2) := by decide +kernel
theorem dX8_textIn_6 : decode cX8_textIn 6 = .ok (.iload 5, 2) := by decide +kernel
theorem dX8_textIn_8 : decode cX8_textIn 8 = .ok (.iload_n 3, 1) := by decide +kernel
theorem dX8_textIn_9 : decode cX8_textIn 9 = .ok (.if_icmp .ge 28, 3) := by decide +kernel
theorem dX8_textIn_12 : decode cX8_textIn 12 = .ok (.bipush 7, 2) := by decide +kernel
theorem dX8_textIn_14 : decode cX8_textIn 14 = .ok (.iload 4, 2) := by decide +kernel
theorem dX8_textIn_16 : decode cX8_textIn 16 = .ok (.imul, 1) := by decide +kernel
theorem dX8_textIn_17 : decode cX8_textIn 17 = .ok (.aload_n 0, 1) := by decide +kernel
theorem dX8_textIn_18 : decode cX8_textIn 18 = .ok (.iload_n 1, 1) := by decide +kernel
theorem dX8_textIn_19 : decode cX8_textIn 19 = .ok (.iconst 2, 1) := by decide +kernel
theorem dX8_textIn_20 : decode cX8_textIn 20 = .ok (.iload_n 2, 1) := by decide +kernel
theorem dX8_textIn_21 : decode cX8_textIn 21 = .ok (.iadd, 1) := by decide +kernel
theorem dX8_textIn_22 : decode cX8_textIn 22 = .ok (.iload 5, 2) := by decide +kernel
theorem dX8_textIn_24 : decode cX8_textIn 24 = .ok (.iadd, 1) := by decide +kernel
theorem dX8_textIn_25 : decode cX8_textIn 25 = .ok (.invokevirtual 72, 3) := by decide +kernel
theorem dX8_textIn_28 : decode cX8_textIn 28 = .ok (.iadd, 1) := by decide +kernel
theorem dX8_textIn_29 : decode cX8_textIn 29 = .ok (.istore 4, 2) := by decide +kernel
theorem dX8_textIn_31 : decode cX8_textIn 31 = .ok (.iinc 5 1, 3) := by decide +kernel
theorem dX8_textIn_34 : decode cX8_textIn 34 = .ok (.goto (-28), 3) := by decide +kernel
theorem dX8_textIn_37 : decode cX8_textIn 37 = .ok (.iload 4, 2) := by decide +kernel
theorem dX8_textIn_39 : decode cX8_textIn 39 = .ok (.ireturn, 1) := by decide +kernel
theorem dX8_lengthOf_0 : decode cX8_lengthOf 0 = .ok (.iconst 0, 1) := by decide +kernel
theorem dX8_lengthOf_1 : decode cX8_lengthOf 1 = .ok (.istore_n 1, 1) := by decide +kernel
theorem dX8_lengthOf_2 : decode cX8_lengthOf 2 = .ok (.iload_n 0, 1) := by decide +kernel
theorem dX8_lengthOf_3 : decode cX8_lengthOf 3 = .ok (.istore_n 2, 1) := by decide +kernel
theorem dX8_lengthOf_4 : decode cX8_lengthOf 4 = .ok (.iload_n 2, 1) := by decide +kernel
theorem dX8_lengthOf_5 : decode cX8_lengthOf 5 = .ok (.ifCond .le 14, 3) := by decide +kernel
theorem dX8_lengthOf_8 : decode cX8_lengthOf 8 = .ok (.iinc 1 1, 3) := by decide +kernel
theorem dX8_lengthOf_11 : decode cX8_lengthOf 11 = .ok (.iload_n 2, 1) := by decide +kernel
theorem dX8_lengthOf_12 : decode cX8_lengthOf 12 = .ok (.bipush 7, 2) := by decide +kernel
theorem dX8_lengthOf_14 : decode cX8_lengthOf 14 = .ok (.idiv, 1) := by decide +kernel
theorem dX8_lengthOf_15 : decode cX8_lengthOf 15 = .ok (.istore_n 2, 1) := by decide +kernel
theorem dX8_lengthOf_16 : decode cX8_lengthOf 16 = .ok (.goto (-12), 3) := by decide +kernel
theorem dX8_lengthOf_19 : decode cX8_lengthOf 19 = .ok (.iload_n 1, 1) := by decide +kernel
theorem dX8_lengthOf_20 : decode cX8_lengthOf 20 = .ok (.ireturn, 1) := by decide +kernel
set_option maxRecDepth 20000 in
theorem ggX8_letterOf_X8_lengthOf : GoodIn wsX8_letterOf wsX8_lengthOf := goodIn_r _ [4] (by decide +kernel) (by decide +kernel)
set_option maxRecDepth 20000 in
theorem gX8_letterOf_X8_lengthOf : GoodIn wsX8_letterOf (va_wsS RX8 75 yX8_lengthOf wsX8_lengthOf) := goodIn_app (goodIn_of _ (by decide +kernel)) ggX8_letterOf_X8_lengthOf
theorem dX8_letterOf_0 : decode cX8_letterOf 0 = .ok (.iload_n 0, 1) := by decide +kernel
theorem dX8_letterOf_1 : decode cX8_letterOf 1 = .ok (.invokestatic 75, 3) := by decide +kernel
theorem dX8_letterOf_4 : decode cX8_letterOf 4 = .ok (.istore_n 2, 1) := by decide +kernel
theorem dX8_letterOf_5 : decode cX8_letterOf 5 = .ok (.iload_n 0, 1) := by decide +kernel
theorem dX8_letterOf_6 : decode cX8_letterOf 6 = .ok (.istore_n 3, 1) := by decide +kernel
theorem dX8_letterOf_7 : decode cX8_letterOf 7 = .ok (.iload_n 2, 1) := by decide +kernel
theorem dX8_letterOf_8 : decode cX8_letterOf 8 = .ok (.iconst 1, 1) := by decide +kernel
theorem dX8_letterOf_9 : decode cX8_letterOf 9 = .ok (.isub, 1) := by decide +kernel
theorem dX8_letterOf_10 : decode cX8_letterOf 10 = .ok (.istore 4, 2) := by decide +kernel
theorem dX8_letterOf_12 : decode cX8_letterOf 12 = .ok (.iload 4, 2) := by decide +kernel
theorem dX8_letterOf_14 : decode cX8_letterOf 14 = .ok (.iload_n 1, 1) := by decide +kernel
theorem dX8_letterOf_15 : decode cX8_letterOf 15 = .ok (.if_icmp .le 14, 3) := by decide +kernel
theorem dX8_letterOf_18 : decode cX8_letterOf 18 = .ok (.iload_n 3, 1) := by decide +kernel
theorem dX8_letterOf_19 : decode cX8_letterOf 19 = .ok (.bipush 7, 2) := by decide +kernel
theorem dX8_letterOf_21 : decode cX8_letterOf 21 = .ok (.idiv, 1) := by decide +kernel
theorem dX8_letterOf_22 : decode cX8_letterOf 22 = .ok (.istore_n 3, 1) := by decide +kernel
theorem dX8_letterOf_23 : decode cX8_letterOf 23 = .ok (.iinc 4 (-1), 3) := by decide +kernel
theorem dX8_letterOf_26 : decode cX8_letterOf 26 = .ok (.goto (-14), 3) := by decide +kernel
theorem dX8_letterOf_29 : decode cX8_letterOf 29 = .ok (.iload_n 1, 1) := by decide +kernel
theorem dX8_letterOf_30 : decode cX8_letterOf 30 = .ok (.iload_n 2, 1) := by decide +kernel
theorem dX8_letterOf_31 : decode cX8_letterOf 31 = .ok (.if_icmp .ge 12, 3) := by decide +kernel
theorem dX8_letterOf_34 : decode cX8_letterOf 34 = .ok (.iload_n 3, 1) := by decide +kernel
theorem dX8_letterOf_35 : decode cX8_letterOf 35 = .ok (.bipush 7, 2) := by decide +kernel
theorem dX8_letterOf_37 : decode cX8_letterOf 37 = .ok (.irem, 1) := by decide +kernel
theorem dX8_letterOf_38 : decode cX8_letterOf 38 = .ok (.iconst 1, 1) := by decide +kernel
theorem dX8_letterOf_39 : decode cX8_letterOf 39 = .ok (.isub, 1) := by decide +kernel
theorem dX8_letterOf_40 : decode cX8_letterOf 40 = .ok (.goto 5, 3) := by decide +kernel
theorem dX8_letterOf_43 : decode cX8_letterOf 43 = .ok (.bipush (-6), 2) := by decide +kernel
theorem dX8_letterOf_45 : decode cX8_letterOf 45 = .ok (.ireturn, 1) := by decide +kernel
set_option maxRecDepth 20000 in
theorem ggX8_pieceOf_X8_textOf : GoodIn wsX8_pieceOf wsX8_textOf := goodIn_r _ [6, 7, 8, 9, 5, 10, 1, 11, 12, 13, 14, 15, 16, 17, 18, 19, 20, 21, 22, 23, 24, 25, 26, 27, 28] (by decide +kernel) (by decide +kernel)
set_option maxRecDepth 20000 in
theorem gX8_pieceOf_X8_textOf : GoodIn wsX8_pieceOf (wsV RX8 79 RX8 yX8_textOf wsX8_textOf) := goodIn_app (goodIn_of _ (by decide +kernel)) ggX8_pieceOf_X8_textOf
theorem dX8_pieceOf_0 : decode cX8_pieceOf 0 = .ok (.bipush (-6), 2) := by decide +kernel
theorem dX8_pieceOf_2 : decode cX8_pieceOf 2 = .ok (.istore_n 2, 1) := by decide +kernel
theorem dX8_pieceOf_3 : decode cX8_pieceOf 3 = .ok (.iconst 0, 1) := by decide +kernel
theorem dX8_pieceOf_4 : decode cX8_pieceOf 4 = .ok (.istore_n 3, 1) := by decide +kernel
theorem dX8_pieceOf_5 : decode cX8_pieceOf 5 = .ok (.iload_n 3, 1) := by decide +kernel
theorem dX8_pieceOf_6 : decode cX8_pieceOf 6 = .ok (.aload_n 0, 1) := by decide +kernel
theorem dX8_pieceOf_7 : decode cX8_pieceOf 7 = .ok (.getfield 7, 3) := by decide +kernel
theorem dX8_pieceOf_10 : decode cX8_pieceOf 10 = .ok (.iconst 0, 1) := by decide +kernel
theorem dX8_pieceOf_11 : decode cX8_pieceOf 11 = .ok (.iaload, 1) := by decide +kernel
theorem dX8_pieceOf_12 : decode cX8_pieceOf 12 = .ok (.if_icmp .ge 24, 3) := by decide +kernel
theorem dX8_pieceOf_15 : decode cX8_pieceOf 15 = .ok (.aload_n 0, 1) := by decide +kernel
theorem dX8_pieceOf_16 : decode cX8_pieceOf 16 = .ok (.iload_n 3, 1) := by decide +kernel
theorem dX8_pieceOf_17 : decode cX8_pieceOf 17 = .ok (.invokevirtual 79, 3) := by decide +kernel
theorem dX8_pieceOf_20 : decode cX8_pieceOf 20 = .ok (.iload_n 1, 1) := by decide +kernel
theorem dX8_pieceOf_21 : decode cX8_pieceOf 21 = .ok (.if_icmp .ne 7, 3) := by decide +kernel
theorem dX8_pieceOf_24 : decode cX8_pieceOf 24 = .ok (.iload_n 3, 1) := by decide +kernel
theorem dX8_pieceOf_25 : decode cX8_pieceOf 25 = .ok (.goto 4, 3) := by decide +kernel
theorem dX8_pieceOf_28 : decode cX8_pieceOf 28 = .ok (.iload_n 2, 1) := by decide +kernel
theorem dX8_pieceOf_29 : decode cX8_pieceOf 29 = .ok (.istore_n 2, 1) := by decide +kernel
theorem dX8_pieceOf_30 : decode cX8_pieceOf 30 = .ok (.iinc 3 1, 3) := by decide +kernel
theorem dX8_pieceOf_33 : decode cX8_pieceOf 33 = .ok (.goto (-28), 3) := by decide +kernel
theorem dX8_pieceOf_36 : decode cX8_pieceOf 36 = .ok (.iload_n 2, 1) := by decide +kernel
theorem dX8_pieceOf_37 : decode cX8_pieceOf 37 = .ok (.ireturn, 1) := by decide +kernel
set_option maxRecDepth 20000 in
theorem ggX8_weightIn_X8_textIn : GoodIn wsX8_weightIn wsX8_textIn := goodIn_r _ [5, 6, 7, 8, 4, 9, 10, 23, 24, 25, 26, 27, 28, 29, 30, 31, 32, 33, 34, 35, 36, 37, 38, 39, 40] (by decide +kernel) (by decide +kernel)
set_option maxRecDepth 20000 in
theorem gX8_weightIn_X8_textIn : GoodIn wsX8_weightIn (wsV RX8 82 RX8 yX8_textIn wsX8_textIn) := goodIn_app (goodIn_of _ (by decide +kernel)) ggX8_weightIn_X8_textIn
set_option maxRecDepth 20000 in
theorem ggX8_weightIn_X8_pieceOf : GoodIn wsX8_weightIn wsX8_pieceOf := goodIn_r _ [14, 10, 15, 16, 17, 4, 18, 19, 20, 21, 22, 23, 24, 25, 26, 27, 28, 29, 30, 31, 32, 33, 34, 35, 36, 37, 38, 39, 40] (by decide +kernel) (by decide +kernel)
set_option maxRecDepth 20000 in
theorem gX8_weightIn_X8_pieceOf : GoodIn wsX8_weightIn (wsV RX8 86 RX8 yX8_pieceOf wsX8_pieceOf) := goodIn_app (goodIn_of _ (by decide +kernel)) ggX8_weightIn_X8_pieceOf
set_option maxRecDepth 20000 in
theorem ggX8_weightIn_X8_piecePart : GoodIn wsX8_weightIn wsX8_piecePart := goodIn_r _ [22, 10, 23, 24, 25, 26, 27, 28, 29, 30, 31, 32, 33, 34, 35, 36, 37, 38, 39, 40] (by decide +kernel) (by decide +kernel)
set_option maxRecDepth 20000 in
theorem gX8_weightIn_X8_piecePart : GoodIn wsX8_weightIn (wsV RX8 68 RX8 yX8_piecePart wsX8_piecePart) := goodIn_app (goodIn_of _ (by decide +kernel)) ggX8_weightIn_X8_piecePart
theorem dX8_weightIn_0 : decode cX8_weightIn 0 = .ok (.aload_n 0, 1) := by decide +kernel
theorem dX8_weightIn_1 : decode cX8_weightIn 1 = .ok (.aload_n 0, 1) := by decide +kernel
theorem dX8_weightIn_2 : decode cX8_weightIn 2 = .ok (.iload_n 1, 1) := by decide +kernel
theorem dX8_weightIn_3 : decode cX8_weightIn 3 = .ok (.iload_n 2, 1) := by decide +kernel
theorem dX8_weightIn_4 : decode cX8_weightIn 4 = .ok (.iload_n 3, 1) := by decide +kernel
theorem dX8_weightIn_5 : decode cX8_weightIn 5 = .ok (.invokevirtual 82, 3) := by decide +kernel
theorem dX8_weightIn_8 : decode cX8_weightIn 8 = .ok (.invokevirtual 86, 3) := by decide +kernel
theorem dX8_weightIn_11 : decode cX8_weightIn 11 = .ok (.istore 4, 2) := by decide +kernel
theorem dX8_weightIn_13 : decode cX8_weightIn 13 = .ok (.iload 4, 2) := by decide +kernel
theorem dX8_weightIn_15 : decode cX8_weightIn 15 = .ok (.bipush (-6), 2) := by decide +kernel
theorem dX8_weightIn_17 : decode cX8_weightIn 17 = .ok (.if_icmp .eq 13, 3) := by decide +kernel
theorem dX8_weightIn_20 : decode cX8_weightIn 20 = .ok (.aload_n 0, 1) := by decide +kernel
theorem dX8_weightIn_21 : decode cX8_weightIn 21 = .ok (.iload 4, 2) := by decide +kernel
theorem dX8_weightIn_23 : decode cX8_weightIn 23 = .ok (.iconst 1, 1) := by decide +kernel
theorem dX8_weightIn_24 : decode cX8_weightIn 24 = .ok (.invokevirtual 68, 3) := by decide +kernel
theorem dX8_weightIn_27 : decode cX8_weightIn 27 = .ok (.goto 13, 3) := by decide +kernel
theorem dX8_weightIn_30 : decode cX8_weightIn 30 = .ok (.iload_n 3, 1) := by decide +kernel
theorem dX8_weightIn_31 : decode cX8_weightIn 31 = .ok (.iconst 1, 1) := by decide +kernel
theorem dX8_weightIn_32 : decode cX8_weightIn 32 = .ok (.if_icmp .ne 7, 3) := by decide +kernel
theorem dX8_weightIn_35 : decode cX8_weightIn 35 = .ok (.iconst 1, 1) := by decide +kernel
theorem dX8_weightIn_36 : decode cX8_weightIn 36 = .ok (.goto 4, 3) := by decide +kernel
theorem dX8_weightIn_39 : decode cX8_weightIn 39 = .ok (.iconst 0, 1) := by decide +kernel
theorem dX8_weightIn_40 : decode cX8_weightIn 40 = .ok (.ireturn, 1) := by decide +kernel
set_option maxRecDepth 20000 in
theorem ggX8_longestAt_X8_wordPart : GoodIn wsX8_longestAt wsX8_wordPart := goodIn_r _ [5, 6, 7, 8, 9, 10, 11, 12, 13, 14, 15, 16, 17, 18, 19, 20, 21, 22, 23, 24] (by decide +kernel) (by decide +kernel)
set_option maxRecDepth 20000 in
theorem gX8_longestAt_X8_wordPart : GoodIn wsX8_longestAt (wsV RX8 72 RX8 yX8_wordPart wsX8_wordPart) := goodIn_app (goodIn_of _ (by decide +kernel)) ggX8_longestAt_X8_wordPart
theorem dX8_longestAt_0 : decode cX8_longestAt 0 = .ok (.aload_n 0, 1) := by decide +kernel
theorem dX8_longestAt_1 : decode cX8_longestAt 1 = .ok (.iload_n 1, 1) := by decide +kernel
theorem dX8_longestAt_2 : decode cX8_longestAt 2 = .ok (.iconst 0, 1) := by decide +kernel
theorem dX8_longestAt_3 : decode cX8_longestAt 3 = .ok (.invokevirtual 72, 3) := by decide +kernel
theorem dX8_longestAt_6 : decode cX8_longestAt 6 = .ok (.iload_n 2, 1) := by decide +kernel
theorem dX8_longestAt_7 : decode cX8_longestAt 7 = .ok (.isub, 1) := by decide +kernel
theorem dX8_longestAt_8 : decode cX8_longestAt 8 = .ok (.istore_n 3, 1) := by decide +kernel
theorem dX8_longestAt_9 : decode cX8_longestAt 9 = .ok (.iload_n 3, 1) := by decide +kernel
theorem dX8_longestAt_10 : decode cX8_longestAt 10 = .ok (.iconst 4, 1) := by decide +kernel
theorem dX8_longestAt_11 : decode cX8_longestAt 11 = .ok (.if_icmp .ge 7, 3) := by decide +kernel
theorem dX8_longestAt_14 : decode cX8_longestAt 14 = .ok (.iload_n 3, 1) := by decide +kernel
theorem dX8_longestAt_15 : decode cX8_longestAt 15 = .ok (.goto 4, 3) := by decide +kernel
theorem dX8_longestAt_18 : decode cX8_longestAt 18 = .ok (.iconst 4, 1) := by decide +kernel
theorem dX8_longestAt_19 : decode cX8_longestAt 19 = .ok (.ireturn, 1) := by decide +kernel
set_option maxRecDepth 20000 in
theorem ggX8_findCut_X8_wordPart : GoodIn wsX8_findCut wsX8_wordPart := goodIn_r _ [8, 9, 34, 35, 36, 37, 38, 39, 40, 41, 42, 43, 44, 45, 46, 47, 48, 49, 50, 51] (by decide +kernel) (by decide +kernel)
set_option maxRecDepth 20000 in
theorem gX8_findCut_X8_wordPart : GoodIn wsX8_findCut (wsV RX8 72 RX8 yX8_wordPart wsX8_wordPart) := goodIn_app (goodIn_of _ (by decide +kernel)) ggX8_findCut_X8_wordPart
set_option maxRecDepth 20000 in
theorem ggX8_findCut_X8_longestAt : GoodIn wsX8_findCut wsX8_longestAt := goodIn_r _ [13, 4, 5, 6, 7, 8, 9, 34, 35, 36, 37, 38, 39, 40, 41, 42, 43, 44, 45, 46, 47, 48, 49, 50, 51] (by decide +kernel) (by decide +kernel)
set_option maxRecDepth 20000 in
theorem gX8_findCut_X8_longestAt : GoodIn wsX8_findCut (wsV RX8 89 RX8 yX8_longestAt wsX8_longestAt) := goodIn_app (goodIn_of _ (by decide +kernel)) ggX8_findCut_X8_longestAt
set_option maxRecDepth 20000 in
theorem ggX8_findCut_X8_weightIn : GoodIn wsX8_findCut wsX8_weightIn := goodIn_r _ [17, 18, 19, 20, 7, 21, 4, 5, 6, 8, 9, 22, 23, 24, 25, 26, 27, 28, 29, 30, 31, 32, 33, 34, 35, 36, 37, 38, 39, 40, 41, 42, 43, 44, 45, 46, 47, 48, 49, 50, 51] (by decide +kernel) (by decide +kernel)
set_option maxRecDepth 20000 in
theorem gX8_findCut_X8_weightIn : GoodIn wsX8_findCut (wsV RX8 92 RX8 yX8_weightIn wsX8_weightIn) := goodIn_app (goodIn_of _ (by decide +kernel)) ggX8_findCut_X8_weightIn
theorem dX8_findCut_0 : decode cX8_findCut 0 = .ok (.aload_n 0, 1) := by decide +kernel
theorem dX8_findCut_1 : decode cX8_findCut 1 = .ok (.iload_n 1, 1) := by decide +kernel
theorem dX8_findCut_2 : decode cX8_findCut 2 = .ok (.iconst 0, 1) := by decide +kernel
theorem dX8_findCut_3 : decode cX8_findCut 3 = .ok (.invokevirtual 72, 3) := by decide +kernel
theorem dX8_findCut_6 : decode cX8_findCut 6 = .ok (.istore_n 2, 1) := by decide +kernel
theorem dX8_findCut_7 : decode cX8_findCut 7 = .ok (.aload_n 0, 1) := by decide +kernel
theorem dX8_findCut_8 : decode cX8_findCut 8 = .ok (.getfield 28, 3) := by decide +kernel
theorem dX8_findCut_11 : decode cX8_findCut 11 = .ok (.iload_n 2, 1) := by decide +kernel
theorem dX8_findCut_12 : decode cX8_findCut 12 = .ok (.lconst 1, 1) := by decide +kernel
theorem dX8_findCut_13 : decode cX8_findCut 13 = .ok (.lastore, 1) := by decide +kernel
theorem dX8_findCut_14 : decode cX8_findCut 14 = .ok (.aload_n 0, 1) := by decide +kernel
theorem dX8_findCut_15 : decode cX8_findCut 15 = .ok (.getfield 32, 3) := by decide +kernel
theorem dX8_findCut_18 : decode cX8_findCut 18 = .ok (.iload_n 2, 1) := by decide +kernel
theorem dX8_findCut_19 : decode cX8_findCut 19 = .ok (.iconst 0, 1) := by decide +kernel
theorem dX8_findCut_20 : decode cX8_findCut 20 = .ok (.iastore, 1) := by decide +kernel
theorem dX8_findCut_21 : decode cX8_findCut 21 = .ok (.iload_n 2, 1) := by decide +kernel
theorem dX8_findCut_22 : decode cX8_findCut 22 = .ok (.iconst 1, 1) := by decide +kernel
theorem dX8_findCut_23 : decode cX8_findCut 23 = .ok (.isub, 1) := by decide +kernel
theorem dX8_findCut_24 : decode cX8_findCut 24 = .ok (.istore_n 3, 1) := by decide +kernel
theorem dX8_findCut_25 : decode cX8_findCut 25 = .ok (.iload_n 3, 1) := by decide +kernel
theorem dX8_findCut_26 : decode cX8_findCut 26 = .ok (.ifCond .lt 138, 3) := by decide +kernel
theorem dX8_findCut_29 : decode cX8_findCut 29 = .ok (.aload_n 0, 1) := by decide +kernel
theorem dX8_findCut_30 : decode cX8_findCut 30 = .ok (.getfield 28, 3) := by decide +kernel
theorem dX8_findCut_33 : decode cX8_findCut 33 = .ok (.iload_n 3, 1) := by decide +kernel
theorem dX8_findCut_34 : decode cX8_findCut 34 = .ok (.lconst 0, 1) := by decide +kernel
theorem dX8_findCut_35 : decode cX8_findCut 35 = .ok (.lastore, 1) := by decide +kernel
theorem dX8_findCut_36 : decode cX8_findCut 36 = .ok (.iconst 1, 1) := by decide +kernel
theorem dX8_findCut_37 : decode cX8_findCut 37 = .ok (.istore 4, 2) := by decide +kernel
theorem dX8_findCut_39 : decode cX8_findCut 39 = .ok (.iload 4, 2) := by decide +kernel
theorem dX8_findCut_41 : decode cX8_findCut 41 = .ok (.aload_n 0, 1) := by decide +kernel
theorem dX8_findCut_42 : decode cX8_findCut 42 = .ok (.iload_n 1, 1) := by decide +kernel
theorem dX8_findCut_43 : decode cX8_findCut 43 = .ok (.iload_n 3, 1) := by decide +kernel
theorem dX8_findCut_44 : decode cX8_findCut 44 = .ok (.invokevirtual 89, 3) := by decide +kernel
theorem dX8_findCut_47 : decode cX8_findCut 47 = .ok (.if_icmp .gt 111, 3) := by decide +kernel
theorem dX8_findCut_50 : decode cX8_findCut 50 = .ok (.aload_n 0, 1) := by decide +kernel
theorem dX8_findCut_51 : decode cX8_findCut 51 = .ok (.iload_n 1, 1) := by decide +kernel
theorem dX8_findCut_52 : decode cX8_findCut 52 = .ok (.iload_n 3, 1) := by decide +kernel
theorem dX8_findCut_53 : decode cX8_findCut 53 = .ok (.iload 4, 2) := by decide +kernel
theorem dX8_findCut_55 : decode cX8_findCut 55 = .ok (.invokevirtual 92, 3) := by decide +kernel
theorem dX8_findCut_58 : decode cX8_findCut 58 = .ok (.istore 5, 2) := by decide +kernel
theorem dX8_findCut_60 : decode cX8_findCut 60 = .ok (.iload 5, 2) := by decide +kernel
theorem dX8_findCut_62 : decode cX8_findCut 62 = .ok (.i2l, 1) := by decide +kernel
theorem dX8_findCut_63 : decode cX8_findCut 63 = .ok (.aload_n 0, 1) := by decide +kernel
theorem dX8_findCut_64 : decode cX8_findCut 64 = .ok (.getfield 28, 3) := by decide +kernel
theorem dX8_findCut_67 : decode cX8_findCut 67 = .ok (.iload_n 3, 1) := by decide +kernel
theorem dX8_findCut_68 : decode cX8_findCut 68 = .ok (.iload 4, 2) := by decide +kernel
theorem dX8_findCut_70 : decode cX8_findCut 70 = .ok (.iadd, 1) := by decide +kernel
theorem dX8_findCut_71 : decode cX8_findCut 71 = .ok (.laload, 1) := by decide +kernel
theorem dX8_findCut_72 : decode cX8_findCut 72 = .ok (.lmul, 1) := by decide +kernel
theorem dX8_findCut_73 : decode cX8_findCut 73 = .ok (.lstore 6, 2) := by decide +kernel
theorem dX8_findCut_75 : decode cX8_findCut 75 = .ok (.iconst 1, 1) := by decide +kernel
theorem dX8_findCut_76 : decode cX8_findCut 76 = .ok (.aload_n 0, 1) := by decide +kernel
theorem dX8_findCut_77 : decode cX8_findCut 77 = .ok (.getfield 32, 3) := by decide +kernel
theorem dX8_findCut_80 : decode cX8_findCut 80 = .ok (.iload_n 3, 1) := by decide +kernel
theorem dX8_findCut_81 : decode cX8_findCut 81 = .ok (.iload 4, 2) := by decide +kernel
theorem dX8_findCut_83 : decode cX8_findCut 83 = .ok (.iadd, 1) := by decide +kernel
theorem dX8_findCut_84 : decode cX8_findCut 84 = .ok (.iaload, 1) := by decide +kernel
theorem dX8_findCut_85 : decode cX8_findCut 85 = .ok (.iadd, 1) := by decide +kernel
theorem dX8_findCut_86 : decode cX8_findCut 86 = .ok (.istore 8, 2) := by decide +kernel
theorem dX8_findCut_88 : decode cX8_findCut 88 = .ok (.iload 5, 2) := by decide +kernel
theorem dX8_findCut_90 : decode cX8_findCut 90 = .ok (.ifCond .le 62, 3) := by decide +kernel
theorem dX8_findCut_93 : decode cX8_findCut 93 = .ok (.lload 6, 2) := by decide +kernel
theorem dX8_findCut_95 : decode cX8_findCut 95 = .ok (.aload_n 0, 1) := by decide +kernel
theorem dX8_findCut_96 : decode cX8_findCut 96 = .ok (.getfield 28, 3) := by decide +kernel
theorem dX8_findCut_99 : decode cX8_findCut 99 = .ok (.iload_n 3, 1) := by decide +kernel
theorem dX8_findCut_100 : decode cX8_findCut 100 = .ok (.laload, 1) := by decide +kernel
theorem dX8_findCut_101 : decode cX8_findCut 101 = .ok (.lcmp, 1) := by decide +kernel
end
section
theorem dX8_findCut_102 : decode cX8_findCut 102 = .ok (.ifCond .gt 26, 3) := by decide +kernel
theorem dX8_findCut_105 : decode cX8_findCut 105 = .ok (.lload 6, 2) := by decide +kernel
theorem dX8_findCut_107 : decode cX8_findCut 107 = .ok (.aload_n 0, 1) := by decide +kernel
theorem dX8_findCut_108 : decode cX8_findCut 108 = .ok (.getfield 28, 3) := by decide +kernel
theorem dX8_findCut_111 : decode cX8_findCut 111 = .ok (.iload_n 3, 1) := by decide +kernel
theorem dX8_findCut_112 : decode cX8_findCut 112 = .ok (.laload, 1) := by decide +kernel
theorem dX8_findCut_113 : decode cX8_findCut 113 = .ok (.lcmp, 1) := by decide +kernel
theorem dX8_findCut_114 : decode cX8_findCut 114 = .ok (.ifCond .ne 38, 3) := by decide +kernel
theorem dX8_findCut_117 : decode cX8_findCut 117 = .ok (.iload 8, 2) := by decide +kernel
theorem dX8_findCut_119 : decode cX8_findCut 119 = .ok (.aload_n 0, 1) := by decide +kernel
theorem dX8_findCut_120 : decode cX8_findCut 120 = .ok (.getfield 32, 3) := by decide +kernel
theorem dX8_findCut_123 : decode cX8_findCut 123 = .ok (.iload_n 3, 1) := by decide +kernel
theorem dX8_findCut_124 : decode cX8_findCut 124 = .ok (.iaload, 1) := by decide +kernel
theorem dX8_findCut_125 : decode cX8_findCut 125 = .ok (.if_icmp .gt 27, 3) := by decide +kernel
theorem dX8_findCut_128 : decode cX8_findCut 128 = .ok (.aload_n 0, 1) := by decide +kernel
theorem dX8_findCut_129 : decode cX8_findCut 129 = .ok (.getfield 28, 3) := by decide +kernel
theorem dX8_findCut_132 : decode cX8_findCut 132 = .ok (.iload_n 3, 1) := by decide +kernel
theorem dX8_findCut_133 : decode cX8_findCut 133 = .ok (.lload 6, 2) := by decide +kernel
theorem dX8_findCut_135 : decode cX8_findCut 135 = .ok (.lastore, 1) := by decide +kernel
theorem dX8_findCut_136 : decode cX8_findCut 136 = .ok (.aload_n 0, 1) := by decide +kernel
theorem dX8_findCut_137 : decode cX8_findCut 137 = .ok (.getfield 32, 3) := by decide +kernel
theorem dX8_findCut_140 : decode cX8_findCut 140 = .ok (.iload_n 3, 1) := by decide +kernel
theorem dX8_findCut_141 : decode cX8_findCut 141 = .ok (.iload 8, 2) := by decide +kernel
theorem dX8_findCut_143 : decode cX8_findCut 143 = .ok (.iastore, 1) := by decide +kernel
theorem dX8_findCut_144 : decode cX8_findCut 144 = .ok (.aload_n 0, 1) := by decide +kernel
theorem dX8_findCut_145 : decode cX8_findCut 145 = .ok (.getfield 35, 3) := by decide +kernel
theorem dX8_findCut_148 : decode cX8_findCut 148 = .ok (.iload_n 3, 1) := by decide +kernel
theorem dX8_findCut_149 : decode cX8_findCut 149 = .ok (.iload 4, 2) := by decide +kernel
theorem dX8_findCut_151 : decode cX8_findCut 151 = .ok (.iastore, 1) := by decide +kernel
theorem dX8_findCut_152 : decode cX8_findCut 152 = .ok (.iinc 4 1, 3) := by decide +kernel
theorem dX8_findCut_155 : decode cX8_findCut 155 = .ok (.goto (-116), 3) := by decide +kernel
theorem dX8_findCut_158 : decode cX8_findCut 158 = .ok (.iinc 3 (-1), 3) := by decide +kernel
theorem dX8_findCut_161 : decode cX8_findCut 161 = .ok (.goto (-136), 3) := by decide +kernel
theorem dX8_findCut_164 : decode cX8_findCut 164 = .ok (.return_, 1) := by decide +kernel
set_option maxRecDepth 20000 in
theorem ggX8_unseenIn_X8_wordPart : GoodIn wsX8_unseenIn wsX8_wordPart := goodIn_r _ [6, 7, 24, 25, 26, 27, 28, 29, 30, 31, 32, 33, 34, 35, 36, 37, 38, 39, 40, 41] (by decide +kernel) (by decide +kernel)
set_option maxRecDepth 20000 in
theorem gX8_unseenIn_X8_wordPart : GoodIn wsX8_unseenIn (wsV RX8 72 RX8 yX8_wordPart wsX8_wordPart) := goodIn_app (goodIn_of _ (by decide +kernel)) ggX8_unseenIn_X8_wordPart
set_option maxRecDepth 20000 in
theorem ggX8_unseenIn_X8_textIn : GoodIn wsX8_unseenIn wsX8_textIn := goodIn_r _ [11, 2, 3, 4, 5, 6, 7, 24, 25, 26, 27, 28, 29, 30, 31, 32, 33, 34, 35, 36, 37, 38, 39, 40, 41] (by decide +kernel) (by decide +kernel)
set_option maxRecDepth 20000 in
theorem gX8_unseenIn_X8_textIn : GoodIn wsX8_unseenIn (wsV RX8 82 RX8 yX8_textIn wsX8_textIn) := goodIn_app (goodIn_of _ (by decide +kernel)) ggX8_unseenIn_X8_textIn
set_option maxRecDepth 20000 in
theorem ggX8_unseenIn_X8_pieceOf : GoodIn wsX8_unseenIn wsX8_pieceOf := goodIn_r _ [15, 7, 16, 17, 18, 5, 19, 20, 21, 22, 23, 24, 25, 26, 27, 28, 29, 30, 31, 32, 33, 34, 35, 36, 37, 38, 39, 40, 41] (by decide +kernel) (by decide +kernel)
set_option maxRecDepth 20000 in
theorem gX8_unseenIn_X8_pieceOf : GoodIn wsX8_unseenIn (wsV RX8 86 RX8 yX8_pieceOf wsX8_pieceOf) := goodIn_app (goodIn_of _ (by decide +kernel)) ggX8_unseenIn_X8_pieceOf
theorem dX8_unseenIn_0 : decode cX8_unseenIn 0 = .ok (.iconst 0, 1) := by decide +kernel
theorem dX8_unseenIn_1 : decode cX8_unseenIn 1 = .ok (.istore_n 2, 1) := by decide +kernel
theorem dX8_unseenIn_2 : decode cX8_unseenIn 2 = .ok (.iconst 0, 1) := by decide +kernel
theorem dX8_unseenIn_3 : decode cX8_unseenIn 3 = .ok (.istore_n 3, 1) := by decide +kernel
theorem dX8_unseenIn_4 : decode cX8_unseenIn 4 = .ok (.iload_n 3, 1) := by decide +kernel
theorem dX8_unseenIn_5 : decode cX8_unseenIn 5 = .ok (.aload_n 0, 1) := by decide +kernel
theorem dX8_unseenIn_6 : decode cX8_unseenIn 6 = .ok (.iload_n 1, 1) := by decide +kernel
theorem dX8_unseenIn_7 : decode cX8_unseenIn 7 = .ok (.iconst 0, 1) := by decide +kernel
theorem dX8_unseenIn_8 : decode cX8_unseenIn 8 = .ok (.invokevirtual 72, 3) := by decide +kernel
theorem dX8_unseenIn_11 : decode cX8_unseenIn 11 = .ok (.if_icmp .ge 44, 3) := by decide +kernel
theorem dX8_unseenIn_14 : decode cX8_unseenIn 14 = .ok (.iload_n 2, 1) := by decide +kernel
theorem dX8_unseenIn_15 : decode cX8_unseenIn 15 = .ok (.aload_n 0, 1) := by decide +kernel
theorem dX8_unseenIn_16 : decode cX8_unseenIn 16 = .ok (.aload_n 0, 1) := by decide +kernel
theorem dX8_unseenIn_17 : decode cX8_unseenIn 17 = .ok (.iload_n 1, 1) := by decide +kernel
theorem dX8_unseenIn_18 : decode cX8_unseenIn 18 = .ok (.iload_n 3, 1) := by decide +kernel
theorem dX8_unseenIn_19 : decode cX8_unseenIn 19 = .ok (.aload_n 0, 1) := by decide +kernel
theorem dX8_unseenIn_20 : decode cX8_unseenIn 20 = .ok (.getfield 35, 3) := by decide +kernel
theorem dX8_unseenIn_23 : decode cX8_unseenIn 23 = .ok (.iload_n 3, 1) := by decide +kernel
theorem dX8_unseenIn_24 : decode cX8_unseenIn 24 = .ok (.iaload, 1) := by decide +kernel
theorem dX8_unseenIn_25 : decode cX8_unseenIn 25 = .ok (.invokevirtual 82, 3) := by decide +kernel
theorem dX8_unseenIn_28 : decode cX8_unseenIn 28 = .ok (.invokevirtual 86, 3) := by decide +kernel
theorem dX8_unseenIn_31 : decode cX8_unseenIn 31 = .ok (.bipush (-6), 2) := by decide +kernel
theorem dX8_unseenIn_33 : decode cX8_unseenIn 33 = .ok (.if_icmp .ne 7, 3) := by decide +kernel
theorem dX8_unseenIn_36 : decode cX8_unseenIn 36 = .ok (.iconst 1, 1) := by decide +kernel
theorem dX8_unseenIn_37 : decode cX8_unseenIn 37 = .ok (.goto 4, 3) := by decide +kernel
theorem dX8_unseenIn_40 : decode cX8_unseenIn 40 = .ok (.iconst 0, 1) := by decide +kernel
theorem dX8_unseenIn_41 : decode cX8_unseenIn 41 = .ok (.iadd, 1) := by decide +kernel
theorem dX8_unseenIn_42 : decode cX8_unseenIn 42 = .ok (.istore_n 2, 1) := by decide +kernel
theorem dX8_unseenIn_43 : decode cX8_unseenIn 43 = .ok (.iload_n 3, 1) := by decide +kernel
theorem dX8_unseenIn_44 : decode cX8_unseenIn 44 = .ok (.aload_n 0, 1) := by decide +kernel
theorem dX8_unseenIn_45 : decode cX8_unseenIn 45 = .ok (.getfield 35, 3) := by decide +kernel
theorem dX8_unseenIn_48 : decode cX8_unseenIn 48 = .ok (.iload_n 3, 1) := by decide +kernel
theorem dX8_unseenIn_49 : decode cX8_unseenIn 49 = .ok (.iaload, 1) := by decide +kernel
theorem dX8_unseenIn_50 : decode cX8_unseenIn 50 = .ok (.iadd, 1) := by decide +kernel
theorem dX8_unseenIn_51 : decode cX8_unseenIn 51 = .ok (.istore_n 3, 1) := by decide +kernel
theorem dX8_unseenIn_52 : decode cX8_unseenIn 52 = .ok (.goto (-48), 3) := by decide +kernel
theorem dX8_unseenIn_55 : decode cX8_unseenIn 55 = .ok (.iload_n 2, 1) := by decide +kernel
theorem dX8_unseenIn_56 : decode cX8_unseenIn 56 = .ok (.ireturn, 1) := by decide +kernel
set_option maxRecDepth 20000 in
theorem ggX8_costOf_X8_findCut : GoodIn wsX8_costOf wsX8_findCut := goodIn_r _ [6, 7, 1, 8, 9, 10, 11, 5, 12, 13, 14, 15, 16, 17, 18, 19, 20, 21, 22, 23, 24, 25, 26, 27, 28, 29, 30, 31, 32, 33, 34, 35, 36, 37, 42, 43, 44, 45, 46, 47, 48, 49, 50, 51, 52, 53, 54, 55, 56, 57, 58, 59] (by decide +kernel) (by decide +kernel)
set_option maxRecDepth 20000 in
theorem gX8_costOf_X8_findCut : GoodIn wsX8_costOf (wsV RX8 95 RX8 yX8_findCut wsX8_findCut) := goodIn_app (goodIn_of _ (by decide +kernel)) ggX8_costOf_X8_findCut
set_option maxRecDepth 20000 in
theorem ggX8_costOf_X8_unseenIn : GoodIn wsX8_costOf wsX8_unseenIn := goodIn_r _ [41, 8, 9, 10, 11, 5, 12, 13, 22, 23, 24, 25, 26, 27, 28, 29, 30, 31, 32, 33, 34, 35, 36, 37, 42, 43, 44, 45, 46, 47, 48, 49, 50, 51, 52, 53, 54, 55, 56, 57, 58, 59] (by decide +kernel) (by decide +kernel)
set_option maxRecDepth 20000 in
theorem gX8_costOf_X8_unseenIn : GoodIn wsX8_costOf (wsV RX8 99 RX8 yX8_unseenIn wsX8_unseenIn) := goodIn_app (goodIn_of _ (by decide +kernel)) ggX8_costOf_X8_unseenIn
set_option maxRecDepth 20000 in
theorem ggX8_costOf_X8_wordPart : GoodIn wsX8_costOf wsX8_wordPart := goodIn_r _ [12, 13, 42, 43, 44, 45, 46, 47, 48, 49, 50, 51, 52, 53, 54, 55, 56, 57, 58, 59] (by decide +kernel) (by decide +kernel)
set_option maxRecDepth 20000 in
theorem gX8_costOf_X8_wordPart : GoodIn wsX8_costOf (wsV RX8 72 RX8 yX8_wordPart wsX8_wordPart) := goodIn_app (goodIn_of _ (by decide +kernel)) ggX8_costOf_X8_wordPart
theorem dX8_costOf_0 : decode cX8_costOf 0 = .ok (.aload_n 0, 1) := by decide +kernel
theorem dX8_costOf_1 : decode cX8_costOf 1 = .ok (.iload_n 1, 1) := by decide +kernel
theorem dX8_costOf_2 : decode cX8_costOf 2 = .ok (.invokevirtual 95, 3) := by decide +kernel
theorem dX8_costOf_5 : decode cX8_costOf 5 = .ok (.aload_n 0, 1) := by decide +kernel
theorem dX8_costOf_6 : decode cX8_costOf 6 = .ok (.getfield 32, 3) := by decide +kernel
theorem dX8_costOf_9 : decode cX8_costOf 9 = .ok (.iconst 0, 1) := by decide +kernel
theorem dX8_costOf_10 : decode cX8_costOf 10 = .ok (.iaload, 1) := by decide +kernel
theorem dX8_costOf_11 : decode cX8_costOf 11 = .ok (.aload_n 0, 1) := by decide +kernel
theorem dX8_costOf_12 : decode cX8_costOf 12 = .ok (.iload_n 1, 1) := by decide +kernel
theorem dX8_costOf_13 : decode cX8_costOf 13 = .ok (.invokevirtual 99, 3) := by decide +kernel
theorem dX8_costOf_16 : decode cX8_costOf 16 = .ok (.iadd, 1) := by decide +kernel
theorem dX8_costOf_17 : decode cX8_costOf 17 = .ok (.aload_n 0, 1) := by decide +kernel
theorem dX8_costOf_18 : decode cX8_costOf 18 = .ok (.iload_n 1, 1) := by decide +kernel
theorem dX8_costOf_19 : decode cX8_costOf 19 = .ok (.iconst 1, 1) := by decide +kernel
theorem dX8_costOf_20 : decode cX8_costOf 20 = .ok (.invokevirtual 72, 3) := by decide +kernel
theorem dX8_costOf_23 : decode cX8_costOf 23 = .ok (.imul, 1) := by decide +kernel
theorem dX8_costOf_24 : decode cX8_costOf 24 = .ok (.ireturn, 1) := by decide +kernel
set_option maxRecDepth 20000 in
theorem ggX8_allCosts_X8_costOf : GoodIn wsX8_allCosts wsX8_costOf := goodIn_r _ [6, 7, 8, 9, 10, 5, 11, 12, 13, 14, 15, 16, 17, 1, 18, 19, 20, 21, 22, 23, 24, 25, 26, 27, 28, 29, 30, 31, 32, 33, 34, 35, 36, 37, 38, 39, 40, 41, 42, 43, 44, 45, 46, 47, 48, 49, 50, 51, 52, 53, 54, 55, 56, 57, 58, 59, 60, 61, 62, 63] (by decide +kernel) (by decide +kernel)
set_option maxRecDepth 20000 in
theorem gX8_allCosts_X8_costOf : GoodIn wsX8_allCosts (wsV RX8 102 RX8 yX8_costOf wsX8_costOf) := goodIn_app (goodIn_of _ (by decide +kernel)) ggX8_allCosts_X8_costOf
theorem dX8_allCosts_0 : decode cX8_allCosts 0 = .ok (.iconst 0, 1) := by decide +kernel
theorem dX8_allCosts_1 : decode cX8_allCosts 1 = .ok (.istore_n 1, 1) := by decide +kernel
theorem dX8_allCosts_2 : decode cX8_allCosts 2 = .ok (.iconst 0, 1) := by decide +kernel
theorem dX8_allCosts_3 : decode cX8_allCosts 3 = .ok (.istore_n 2, 1) := by decide +kernel
theorem dX8_allCosts_4 : decode cX8_allCosts 4 = .ok (.iload_n 2, 1) := by decide +kernel
theorem dX8_allCosts_5 : decode cX8_allCosts 5 = .ok (.aload_n 0, 1) := by decide +kernel
theorem dX8_allCosts_6 : decode cX8_allCosts 6 = .ok (.getfield 7, 3) := by decide +kernel
theorem dX8_allCosts_9 : decode cX8_allCosts 9 = .ok (.iconst 1, 1) := by decide +kernel
theorem dX8_allCosts_10 : decode cX8_allCosts 10 = .ok (.iaload, 1) := by decide +kernel
theorem dX8_allCosts_11 : decode cX8_allCosts 11 = .ok (.if_icmp .ge 17, 3) := by decide +kernel
theorem dX8_allCosts_14 : decode cX8_allCosts 14 = .ok (.iload_n 1, 1) := by decide +kernel
theorem dX8_allCosts_15 : decode cX8_allCosts 15 = .ok (.aload_n 0, 1) := by decide +kernel
theorem dX8_allCosts_16 : decode cX8_allCosts 16 = .ok (.iload_n 2, 1) := by decide +kernel
theorem dX8_allCosts_17 : decode cX8_allCosts 17 = .ok (.invokevirtual 102, 3) := by decide +kernel
theorem dX8_allCosts_20 : decode cX8_allCosts 20 = .ok (.iadd, 1) := by decide +kernel
theorem dX8_allCosts_21 : decode cX8_allCosts 21 = .ok (.istore_n 1, 1) := by decide +kernel
theorem dX8_allCosts_22 : decode cX8_allCosts 22 = .ok (.iinc 2 1, 3) := by decide +kernel
theorem dX8_allCosts_25 : decode cX8_allCosts 25 = .ok (.goto (-21), 3) := by decide +kernel
theorem dX8_allCosts_28 : decode cX8_allCosts 28 = .ok (.iload_n 1, 1) := by decide +kernel
theorem dX8_allCosts_29 : decode cX8_allCosts 29 = .ok (.ireturn, 1) := by decide +kernel
set_option maxRecDepth 20000 in
theorem ggX8_findTotals_X8_wordPart : GoodIn wsX8_findTotals wsX8_wordPart := goodIn_r _ [7, 8, 33, 34, 35, 36, 37, 38, 39, 40, 41, 42, 43, 44, 45, 46, 47, 48, 49, 50] (by decide +kernel) (by decide +kernel)
set_option maxRecDepth 20000 in
theorem gX8_findTotals_X8_wordPart : GoodIn wsX8_findTotals (wsV RX8 72 RX8 yX8_wordPart wsX8_wordPart) := goodIn_app (goodIn_of _ (by decide +kernel)) ggX8_findTotals_X8_wordPart
set_option maxRecDepth 20000 in
theorem ggX8_findTotals_X8_longestAt : GoodIn wsX8_findTotals wsX8_longestAt := goodIn_r _ [12, 3, 4, 5, 6, 7, 8, 33, 34, 35, 36, 37, 38, 39, 40, 41, 42, 43, 44, 45, 46, 47, 48, 49, 50] (by decide +kernel) (by decide +kernel)
set_option maxRecDepth 20000 in
theorem gX8_findTotals_X8_longestAt : GoodIn wsX8_findTotals (wsV RX8 89 RX8 yX8_longestAt wsX8_longestAt) := goodIn_app (goodIn_of _ (by decide +kernel)) ggX8_findTotals_X8_longestAt
set_option maxRecDepth 20000 in
theorem ggX8_findTotals_X8_weightIn : GoodIn wsX8_findTotals wsX8_weightIn := goodIn_r _ [16, 17, 18, 19, 6, 20, 3, 4, 5, 7, 8, 21, 22, 23, 24, 25, 26, 27, 28, 29, 30, 31, 32, 33, 34, 35, 36, 37, 38, 39, 40, 41, 42, 43, 44, 45, 46, 47, 48, 49, 50] (by decide +kernel) (by decide +kernel)
set_option maxRecDepth 20000 in
theorem gX8_findTotals_X8_weightIn : GoodIn wsX8_findTotals (wsV RX8 92 RX8 yX8_weightIn wsX8_weightIn) := goodIn_app (goodIn_of _ (by decide +kernel)) ggX8_findTotals_X8_weightIn
theorem dX8_findTotals_0 : decode cX8_findTotals 0 = .ok (.aload_n 0, 1) := by decide +kernel
theorem dX8_findTotals_1 : decode cX8_findTotals 1 = .ok (.iload_n 1, 1) := by decide +kernel
theorem dX8_findTotals_2 : decode cX8_findTotals 2 = .ok (.iconst 0, 1) := by decide +kernel
theorem dX8_findTotals_3 : decode cX8_findTotals 3 = .ok (.invokevirtual 72, 3) := by decide +kernel
theorem dX8_findTotals_6 : decode cX8_findTotals 6 = .ok (.istore_n 2, 1) := by decide +kernel
theorem dX8_findTotals_7 : decode cX8_findTotals 7 = .ok (.iconst 0, 1) := by decide +kernel
theorem dX8_findTotals_8 : decode cX8_findTotals 8 = .ok (.istore_n 3, 1) := by decide +kernel
theorem dX8_findTotals_9 : decode cX8_findTotals 9 = .ok (.iload_n 3, 1) := by decide +kernel
theorem dX8_findTotals_10 : decode cX8_findTotals 10 = .ok (.iload_n 2, 1) := by decide +kernel
theorem dX8_findTotals_11 : decode cX8_findTotals 11 = .ok (.if_icmp .gt 40, 3) := by decide +kernel
theorem dX8_findTotals_14 : decode cX8_findTotals 14 = .ok (.aload_n 0, 1) := by decide +kernel
theorem dX8_findTotals_15 : decode cX8_findTotals 15 = .ok (.getfield 38, 3) := by decide +kernel
theorem dX8_findTotals_18 : decode cX8_findTotals 18 = .ok (.iload_n 3, 1) := by decide +kernel
theorem dX8_findTotals_19 : decode cX8_findTotals 19 = .ok (.iload_n 3, 1) := by decide +kernel
theorem dX8_findTotals_20 : decode cX8_findTotals 20 = .ok (.ifCond .ne 7, 3) := by decide +kernel
theorem dX8_findTotals_23 : decode cX8_findTotals 23 = .ok (.lconst 1, 1) := by decide +kernel
theorem dX8_findTotals_24 : decode cX8_findTotals 24 = .ok (.goto 4, 3) := by decide +kernel
theorem dX8_findTotals_27 : decode cX8_findTotals 27 = .ok (.lconst 0, 1) := by decide +kernel
theorem dX8_findTotals_28 : decode cX8_findTotals 28 = .ok (.lastore, 1) := by decide +kernel
theorem dX8_findTotals_29 : decode cX8_findTotals 29 = .ok (.aload_n 0, 1) := by decide +kernel
theorem dX8_findTotals_30 : decode cX8_findTotals 30 = .ok (.getfield 41, 3) := by decide +kernel
theorem dX8_findTotals_33 : decode cX8_findTotals 33 = .ok (.iload_n 3, 1) := by decide +kernel
theorem dX8_findTotals_34 : decode cX8_findTotals 34 = .ok (.iload_n 3, 1) := by decide +kernel
theorem dX8_findTotals_35 : decode cX8_findTotals 35 = .ok (.iload_n 2, 1) := by decide +kernel
theorem dX8_findTotals_36 : decode cX8_findTotals 36 = .ok (.if_icmp .ne 7, 3) := by decide +kernel
theorem dX8_findTotals_39 : decode cX8_findTotals 39 = .ok (.lconst 1, 1) := by decide +kernel
theorem dX8_findTotals_40 : decode cX8_findTotals 40 = .ok (.goto 4, 3) := by decide +kernel
theorem dX8_findTotals_43 : decode cX8_findTotals 43 = .ok (.lconst 0, 1) := by decide +kernel
theorem dX8_findTotals_44 : decode cX8_findTotals 44 = .ok (.lastore, 1) := by decide +kernel
theorem dX8_findTotals_45 : decode cX8_findTotals 45 = .ok (.iinc 3 1, 3) := by decide +kernel
theorem dX8_findTotals_48 : decode cX8_findTotals 48 = .ok (.goto (-39), 3) := by decide +kernel
theorem dX8_findTotals_51 : decode cX8_findTotals 51 = .ok (.iconst 0, 1) := by decide +kernel
theorem dX8_findTotals_52 : decode cX8_findTotals 52 = .ok (.istore_n 3, 1) := by decide +kernel
theorem dX8_findTotals_53 : decode cX8_findTotals 53 = .ok (.iload_n 3, 1) := by decide +kernel
theorem dX8_findTotals_54 : decode cX8_findTotals 54 = .ok (.iload_n 2, 1) := by decide +kernel
theorem dX8_findTotals_55 : decode cX8_findTotals 55 = .ok (.if_icmp .ge 57, 3) := by decide +kernel
theorem dX8_findTotals_58 : decode cX8_findTotals 58 = .ok (.iconst 1, 1) := by decide +kernel
theorem dX8_findTotals_59 : decode cX8_findTotals 59 = .ok (.istore 4, 2) := by decide +kernel
theorem dX8_findTotals_61 : decode cX8_findTotals 61 = .ok (.iload 4, 2) := by decide +kernel
theorem dX8_findTotals_63 : decode cX8_findTotals 63 = .ok (.aload_n 0, 1) := by decide +kernel
theorem dX8_findTotals_64 : decode cX8_findTotals 64 = .ok (.iload_n 1, 1) := by decide +kernel
theorem dX8_findTotals_65 : decode cX8_findTotals 65 = .ok (.iload_n 3, 1) := by decide +kernel
theorem dX8_findTotals_66 : decode cX8_findTotals 66 = .ok (.invokevirtual 89, 3) := by decide +kernel
theorem dX8_findTotals_69 : decode cX8_findTotals 69 = .ok (.if_icmp .gt 37, 3) := by decide +kernel
theorem dX8_findTotals_72 : decode cX8_findTotals 72 = .ok (.aload_n 0, 1) := by decide +kernel
theorem dX8_findTotals_73 : decode cX8_findTotals 73 = .ok (.getfield 38, 3) := by decide +kernel
theorem dX8_findTotals_76 : decode cX8_findTotals 76 = .ok (.iload_n 3, 1) := by decide +kernel
theorem dX8_findTotals_77 : decode cX8_findTotals 77 = .ok (.iload 4, 2) := by decide +kernel
theorem dX8_findTotals_79 : decode cX8_findTotals 79 = .ok (.iadd, 1) := by decide +kernel
theorem dX8_findTotals_80 : decode cX8_findTotals 80 = .ok (.dup2, 1) := by decide +kernel
theorem dX8_findTotals_81 : decode cX8_findTotals 81 = .ok (.laload, 1) := by decide +kernel
theorem dX8_findTotals_82 : decode cX8_findTotals 82 = .ok (.aload_n 0, 1) := by decide +kernel
theorem dX8_findTotals_83 : decode cX8_findTotals 83 = .ok (.iload_n 1, 1) := by decide +kernel
theorem dX8_findTotals_84 : decode cX8_findTotals 84 = .ok (.iload_n 3, 1) := by decide +kernel
theorem dX8_findTotals_85 : decode cX8_findTotals 85 = .ok (.iload 4, 2) := by decide +kernel
theorem dX8_findTotals_87 : decode cX8_findTotals 87 = .ok (.invokevirtual 92, 3) := by decide +kernel
theorem dX8_findTotals_90 : decode cX8_findTotals 90 = .ok (.i2l, 1) := by decide +kernel
theorem dX8_findTotals_91 : decode cX8_findTotals 91 = .ok (.aload_n 0, 1) := by decide +kernel
theorem dX8_findTotals_92 : decode cX8_findTotals 92 = .ok (.getfield 38, 3) := by decide +kernel
theorem dX8_findTotals_95 : decode cX8_findTotals 95 = .ok (.iload_n 3, 1) := by decide +kernel
theorem dX8_findTotals_96 : decode cX8_findTotals 96 = .ok (.laload, 1) := by decide +kernel
theorem dX8_findTotals_97 : decode cX8_findTotals 97 = .ok (.lmul, 1) := by decide +kernel
theorem dX8_findTotals_98 : decode cX8_findTotals 98 = .ok (.ladd, 1) := by decide +kernel
theorem dX8_findTotals_99 : decode cX8_findTotals 99 = .ok (.lastore, 1) := by decide +kernel
theorem dX8_findTotals_100 : decode cX8_findTotals 100 = .ok (.iinc 4 1, 3) := by decide +kernel
theorem dX8_findTotals_103 : decode cX8_findTotals 103 = .ok (.goto (-42), 3) := by decide +kernel
theorem dX8_findTotals_106 : decode cX8_findTotals 106 = .ok (.iinc 3 1, 3) := by decide +kernel
theorem dX8_findTotals_109 : decode cX8_findTotals 109 = .ok (.goto (-56), 3) := by decide +kernel
theorem dX8_findTotals_112 : decode cX8_findTotals 112 = .ok (.iload_n 2, 1) := by decide +kernel
theorem dX8_findTotals_113 : decode cX8_findTotals 113 = .ok (.iconst 1, 1) := by decide +kernel
theorem dX8_findTotals_114 : decode cX8_findTotals 114 = .ok (.isub, 1) := by decide +kernel
theorem dX8_findTotals_115 : decode cX8_findTotals 115 = .ok (.istore_n 3, 1) := by decide +kernel
theorem dX8_findTotals_116 : decode cX8_findTotals 116 = .ok (.iload_n 3, 1) := by decide +kernel
theorem dX8_findTotals_117 : decode cX8_findTotals 117 = .ok (.ifCond .lt 57, 3) := by decide +kernel
theorem dX8_findTotals_120 : decode cX8_findTotals 120 = .ok (.iconst 1, 1) := by decide +kernel
theorem dX8_findTotals_121 : decode cX8_findTotals 121 = .ok (.istore 4, 2) := by decide +kernel
theorem dX8_findTotals_123 : decode cX8_findTotals 123 = .ok (.iload 4, 2) := by decide +kernel
theorem dX8_findTotals_125 : decode cX8_findTotals 125 = .ok (.aload_n 0, 1) := by decide +kernel
theorem dX8_findTotals_126 : decode cX8_findTotals 126 = .ok (.iload_n 1, 1) := by decide +kernel
theorem dX8_findTotals_127 : decode cX8_findTotals 127 = .ok (.iload_n 3, 1) := by decide +kernel
theorem dX8_findTotals_128 : decode cX8_findTotals 128 = .ok (.invokevirtual 89, 3) := by decide +kernel
theorem dX8_findTotals_131 : decode cX8_findTotals 131 = .ok (.if_icmp .gt 37, 3) := by decide +kernel
theorem dX8_findTotals_134 : decode cX8_findTotals 134 = .ok (.aload_n 0, 1) := by decide +kernel
theorem dX8_findTotals_135 : decode cX8_findTotals 135 = .ok (.getfield 41, 3) := by decide +kernel
theorem dX8_findTotals_138 : decode cX8_findTotals 138 = .ok (.iload_n 3, 1) := by decide +kernel
theorem dX8_findTotals_139 : decode cX8_findTotals 139 = .ok (.dup2, 1) := by decide +kernel
theorem dX8_findTotals_140 : decode cX8_findTotals 140 = .ok (.laload, 1) := by decide +kernel
theorem dX8_findTotals_141 : decode cX8_findTotals 141 = .ok (.aload_n 0, 1) := by decide +kernel
theorem dX8_findTotals_142 : decode cX8_findTotals 142 = .ok (.iload_n 1, 1) := by decide +kernel
theorem dX8_findTotals_143 : decode cX8_findTotals 143 = .ok (.iload_n 3, 1) := by decide +kernel
theorem dX8_findTotals_144 : decode cX8_findTotals 144 = .ok (.iload 4, 2) := by decide +kernel
theorem dX8_findTotals_146 : decode cX8_findTotals 146 = .ok (.invokevirtual 92, 3) := by decide +kernel
theorem dX8_findTotals_149 : decode cX8_findTotals 149 = .ok (.i2l, 1) := by decide +kernel
theorem dX8_findTotals_150 : decode cX8_findTotals 150 = .ok (.aload_n 0, 1) := by decide +kernel
theorem dX8_findTotals_151 : decode cX8_findTotals 151 = .ok (.getfield 41, 3) := by decide +kernel
theorem dX8_findTotals_154 : decode cX8_findTotals 154 = .ok (.iload_n 3, 1) := by decide +kernel
theorem dX8_findTotals_155 : decode cX8_findTotals 155 = .ok (.iload 4, 2) := by decide +kernel
theorem dX8_findTotals_157 : decode cX8_findTotals 157 = .ok (.iadd, 1) := by decide +kernel
theorem dX8_findTotals_158 : decode cX8_findTotals 158 = .ok (.laload, 1) := by decide +kernel
theorem dX8_findTotals_159 : decode cX8_findTotals 159 = .ok (.lmul, 1) := by decide +kernel
theorem dX8_findTotals_160 : decode cX8_findTotals 160 = .ok (.ladd, 1) := by decide +kernel
theorem dX8_findTotals_161 : decode cX8_findTotals 161 = .ok (.lastore, 1) := by decide +kernel
theorem dX8_findTotals_162 : decode cX8_findTotals 162 = .ok (.iinc 4 1, 3) := by decide +kernel
theorem dX8_findTotals_165 : decode cX8_findTotals 165 = .ok (.goto (-42), 3) := by decide +kernel
theorem dX8_findTotals_168 : decode cX8_findTotals 168 = .ok (.iinc 3 (-1), 3) := by decide +kernel
theorem dX8_findTotals_171 : decode cX8_findTotals 171 = .ok (.goto (-55), 3) := by decide +kernel
theorem dX8_findTotals_174 : decode cX8_findTotals 174 = .ok (.return_, 1) := by decide +kernel
set_option maxRecDepth 20000 in
theorem ggX8_shareIn_X8_piecePart : GoodIn wsX8_shareIn wsX8_piecePart := goodIn_r _ [8, 9, 22, 23, 24, 25, 26, 27, 28, 29, 30, 31, 32, 33, 34, 35, 36, 37, 38, 39] (by decide +kernel) (by decide +kernel)
set_option maxRecDepth 20000 in
theorem gX8_shareIn_X8_piecePart : GoodIn wsX8_shareIn (wsV RX8 68 RX8 yX8_piecePart wsX8_piecePart) := goodIn_app (goodIn_of _ (by decide +kernel)) ggX8_shareIn_X8_piecePart
set_option maxRecDepth 20000 in
theorem ggX8_shareIn_X8_textOf : GoodIn wsX8_shareIn wsX8_textOf := goodIn_r _ [13, 4, 5, 6, 7, 8, 9, 22, 23, 24, 25, 26, 27, 28, 29, 30, 31, 32, 33, 34, 35, 36, 37, 38, 39] (by decide +kernel) (by decide +kernel)
set_option maxRecDepth 20000 in
theorem gX8_shareIn_X8_textOf : GoodIn wsX8_shareIn (wsV RX8 79 RX8 yX8_textOf wsX8_textOf) := goodIn_app (goodIn_of _ (by decide +kernel)) ggX8_shareIn_X8_textOf
set_option maxRecDepth 20000 in
theorem ggX8_shareIn_X8_wordPart : GoodIn wsX8_shareIn wsX8_wordPart := goodIn_r _ [17, 9, 22, 23, 24, 25, 26, 27, 28, 29, 30, 31, 32, 33, 34, 35, 36, 37, 38, 39] (by decide +kernel) (by decide +kernel)
set_option maxRecDepth 20000 in
theorem gX8_shareIn_X8_wordPart : GoodIn wsX8_shareIn (wsV RX8 72 RX8 yX8_wordPart wsX8_wordPart) := goodIn_app (goodIn_of _ (by decide +kernel)) ggX8_shareIn_X8_wordPart
set_option maxRecDepth 20000 in
theorem ggX8_shareIn_X8_textIn : GoodIn wsX8_shareIn wsX8_textIn := goodIn_r _ [21, 14, 15, 16, 7, 17, 9, 22, 23, 24, 25, 26, 27, 28, 29, 30, 31, 32, 33, 34, 35, 36, 37, 38, 39] (by decide +kernel) (by decide +kernel)
set_option maxRecDepth 20000 in
theorem gX8_shareIn_X8_textIn : GoodIn wsX8_shareIn (wsV RX8 82 RX8 yX8_textIn wsX8_textIn) := goodIn_app (goodIn_of _ (by decide +kernel)) ggX8_shareIn_X8_textIn
theorem dX8_shareIn_0 : decode cX8_shareIn 0 = .ok (.aload_n 0, 1) := by decide +kernel
theorem dX8_shareIn_1 : decode cX8_shareIn 1 = .ok (.iload_n 2, 1) := by decide +kernel
theorem dX8_shareIn_2 : decode cX8_shareIn 2 = .ok (.iconst 0, 1) := by decide +kernel
theorem dX8_shareIn_3 : decode cX8_shareIn 3 = .ok (.invokevirtual 68, 3) := by decide +kernel
theorem dX8_shareIn_6 : decode cX8_shareIn 6 = .ok (.istore_n 3, 1) := by decide +kernel
theorem dX8_shareIn_7 : decode cX8_shareIn 7 = .ok (.aload_n 0, 1) := by decide +kernel
theorem dX8_shareIn_8 : decode cX8_shareIn 8 = .ok (.iload_n 2, 1) := by decide +kernel
theorem dX8_shareIn_9 : decode cX8_shareIn 9 = .ok (.invokevirtual 79, 3) := by decide +kernel
theorem dX8_shareIn_12 : decode cX8_shareIn 12 = .ok (.istore 4, 2) := by decide +kernel
theorem dX8_shareIn_14 : decode cX8_shareIn 14 = .ok (.lconst 0, 1) := by decide +kernel
theorem dX8_shareIn_15 : decode cX8_shareIn 15 = .ok (.lstore 5, 2) := by decide +kernel
theorem dX8_shareIn_17 : decode cX8_shareIn 17 = .ok (.iconst 0, 1) := by decide +kernel
theorem dX8_shareIn_18 : decode cX8_shareIn 18 = .ok (.istore 7, 2) := by decide +kernel
theorem dX8_shareIn_20 : decode cX8_shareIn 20 = .ok (.iload 7, 2) := by decide +kernel
theorem dX8_shareIn_22 : decode cX8_shareIn 22 = .ok (.iload_n 3, 1) := by decide +kernel
theorem dX8_shareIn_23 : decode cX8_shareIn 23 = .ok (.iadd, 1) := by decide +kernel
theorem dX8_shareIn_24 : decode cX8_shareIn 24 = .ok (.aload_n 0, 1) := by decide +kernel
theorem dX8_shareIn_25 : decode cX8_shareIn 25 = .ok (.iload_n 1, 1) := by decide +kernel
theorem dX8_shareIn_26 : decode cX8_shareIn 26 = .ok (.iconst 0, 1) := by decide +kernel
theorem dX8_shareIn_27 : decode cX8_shareIn 27 = .ok (.invokevirtual 72, 3) := by decide +kernel
theorem dX8_shareIn_30 : decode cX8_shareIn 30 = .ok (.if_icmp .gt 56, 3) := by decide +kernel
theorem dX8_shareIn_33 : decode cX8_shareIn 33 = .ok (.lload 5, 2) := by decide +kernel
theorem dX8_shareIn_35 : decode cX8_shareIn 35 = .ok (.aload_n 0, 1) := by decide +kernel
theorem dX8_shareIn_36 : decode cX8_shareIn 36 = .ok (.iload_n 1, 1) := by decide +kernel
theorem dX8_shareIn_37 : decode cX8_shareIn 37 = .ok (.iload 7, 2) := by decide +kernel
theorem dX8_shareIn_39 : decode cX8_shareIn 39 = .ok (.iload_n 3, 1) := by decide +kernel
theorem dX8_shareIn_40 : decode cX8_shareIn 40 = .ok (.invokevirtual 82, 3) := by decide +kernel
theorem dX8_shareIn_43 : decode cX8_shareIn 43 = .ok (.iload 4, 2) := by decide +kernel
theorem dX8_shareIn_45 : decode cX8_shareIn 45 = .ok (.if_icmp .ne 31, 3) := by decide +kernel
theorem dX8_shareIn_48 : decode cX8_shareIn 48 = .ok (.aload_n 0, 1) := by decide +kernel
theorem dX8_shareIn_49 : decode cX8_shareIn 49 = .ok (.getfield 38, 3) := by decide +kernel
theorem dX8_shareIn_52 : decode cX8_shareIn 52 = .ok (.iload 7, 2) := by decide +kernel
theorem dX8_shareIn_54 : decode cX8_shareIn 54 = .ok (.laload, 1) := by decide +kernel
theorem dX8_shareIn_55 : decode cX8_shareIn 55 = .ok (.aload_n 0, 1) := by decide +kernel
theorem dX8_shareIn_56 : decode cX8_shareIn 56 = .ok (.iload_n 2, 1) := by decide +kernel
theorem dX8_shareIn_57 : decode cX8_shareIn 57 = .ok (.iconst 1, 1) := by decide +kernel
theorem dX8_shareIn_58 : decode cX8_shareIn 58 = .ok (.invokevirtual 68, 3) := by decide +kernel
theorem dX8_shareIn_61 : decode cX8_shareIn 61 = .ok (.i2l, 1) := by decide +kernel
theorem dX8_shareIn_62 : decode cX8_shareIn 62 = .ok (.lmul, 1) := by decide +kernel
theorem dX8_shareIn_63 : decode cX8_shareIn 63 = .ok (.aload_n 0, 1) := by decide +kernel
theorem dX8_shareIn_64 : decode cX8_shareIn 64 = .ok (.getfield 41, 3) := by decide +kernel
theorem dX8_shareIn_67 : decode cX8_shareIn 67 = .ok (.iload 7, 2) := by decide +kernel
theorem dX8_shareIn_69 : decode cX8_shareIn 69 = .ok (.iload_n 3, 1) := by decide +kernel
theorem dX8_shareIn_70 : decode cX8_shareIn 70 = .ok (.iadd, 1) := by decide +kernel
theorem dX8_shareIn_71 : decode cX8_shareIn 71 = .ok (.laload, 1) := by decide +kernel
theorem dX8_shareIn_72 : decode cX8_shareIn 72 = .ok (.lmul, 1) := by decide +kernel
theorem dX8_shareIn_73 : decode cX8_shareIn 73 = .ok (.goto 4, 3) := by decide +kernel
theorem dX8_shareIn_76 : decode cX8_shareIn 76 = .ok (.lconst 0, 1) := by decide +kernel
theorem dX8_shareIn_77 : decode cX8_shareIn 77 = .ok (.ladd, 1) := by decide +kernel
theorem dX8_shareIn_78 : decode cX8_shareIn 78 = .ok (.lstore 5, 2) := by decide +kernel
theorem dX8_shareIn_80 : decode cX8_shareIn 80 = .ok (.iinc 7 1, 3) := by decide +kernel
theorem dX8_shareIn_83 : decode cX8_shareIn 83 = .ok (.goto (-63), 3) := by decide +kernel
theorem dX8_shareIn_86 : decode cX8_shareIn 86 = .ok (.ldc2_w 105, 3) := by decide +kernel
theorem dX8_shareIn_89 : decode cX8_shareIn 89 = .ok (.lload 5, 2) := by decide +kernel
theorem dX8_shareIn_91 : decode cX8_shareIn 91 = .ok (.lmul, 1) := by decide +kernel
theorem dX8_shareIn_92 : decode cX8_shareIn 92 = .ok (.aload_n 0, 1) := by decide +kernel
theorem dX8_shareIn_93 : decode cX8_shareIn 93 = .ok (.getfield 41, 3) := by decide +kernel
theorem dX8_shareIn_96 : decode cX8_shareIn 96 = .ok (.iconst 0, 1) := by decide +kernel
theorem dX8_shareIn_97 : decode cX8_shareIn 97 = .ok (.laload, 1) := by decide +kernel
theorem dX8_shareIn_98 : decode cX8_shareIn 98 = .ok (.ldiv, 1) := by decide +kernel
theorem dX8_shareIn_99 : decode cX8_shareIn 99 = .ok (.l2i, 1) := by decide +kernel
theorem dX8_shareIn_100 : decode cX8_shareIn 100 = .ok (.ireturn, 1) := by decide +kernel
set_option maxRecDepth 20000 in
theorem ggX8_cutsOf_X8_wordPart : GoodIn wsX8_cutsOf wsX8_wordPart := goodIn_r _ [6, 7, 32, 33, 34, 35, 36, 37, 38, 39, 40, 41, 42, 43, 44, 45, 46, 47, 48, 49] (by decide +kernel) (by decide +kernel)
set_option maxRecDepth 20000 in
theorem gX8_cutsOf_X8_wordPart : GoodIn wsX8_cutsOf (wsV RX8 72 RX8 yX8_wordPart wsX8_wordPart) := goodIn_app (goodIn_of _ (by decide +kernel)) ggX8_cutsOf_X8_wordPart
set_option maxRecDepth 20000 in
theorem ggX8_cutsOf_X8_longestAt : GoodIn wsX8_cutsOf wsX8_longestAt := goodIn_r _ [11, 2, 3, 4, 5, 6, 7, 32, 33, 34, 35, 36, 37, 38, 39, 40, 41, 42, 43, 44, 45, 46, 47, 48, 49] (by decide +kernel) (by decide +kernel)
set_option maxRecDepth 20000 in
theorem gX8_cutsOf_X8_longestAt : GoodIn wsX8_cutsOf (wsV RX8 89 RX8 yX8_longestAt wsX8_longestAt) := goodIn_app (goodIn_of _ (by decide +kernel)) ggX8_cutsOf_X8_longestAt
set_option maxRecDepth 20000 in
theorem ggX8_cutsOf_X8_weightIn : GoodIn wsX8_cutsOf wsX8_weightIn := goodIn_r _ [15, 16, 17, 18, 5, 19, 2, 3, 4, 6, 7, 20, 21, 22, 23, 24, 25, 26, 27, 28, 29, 30, 31, 32, 33, 34, 35, 36, 37, 38, 39, 40, 41, 42, 43, 44, 45, 46, 47, 48, 49] (by decide +kernel) (by decide +kernel)
set_option maxRecDepth 20000 in
theorem gX8_cutsOf_X8_weightIn : GoodIn wsX8_cutsOf (wsV RX8 92 RX8 yX8_weightIn wsX8_weightIn) := goodIn_app (goodIn_of _ (by decide +kernel)) ggX8_cutsOf_X8_weightIn
theorem dX8_cutsOf_0 : decode cX8_cutsOf 0 = .ok (.aload_n 0, 1) := by decide +kernel
theorem dX8_cutsOf_1 : decode cX8_cutsOf 1 = .ok (.iload_n 1, 1) := by decide +kernel
theorem dX8_cutsOf_2 : decode cX8_cutsOf 2 = .ok (.iconst 0, 1) := by decide +kernel
theorem dX8_cutsOf_3 : decode cX8_cutsOf 3 = .ok (.invokevirtual 72, 3) := by decide +kernel
theorem dX8_cutsOf_6 : decode cX8_cutsOf 6 = .ok (.istore_n 2, 1) := by decide +kernel
theorem dX8_cutsOf_7 : decode cX8_cutsOf 7 = .ok (.iconst 0, 1) := by decide +kernel
theorem dX8_cutsOf_8 : decode cX8_cutsOf 8 = .ok (.istore_n 3, 1) := by decide +kernel
theorem dX8_cutsOf_9 : decode cX8_cutsOf 9 = .ok (.iload_n 3, 1) := by decide +kernel
theorem dX8_cutsOf_10 : decode cX8_cutsOf 10 = .ok (.iload_n 2, 1) := by decide +kernel
theorem dX8_cutsOf_11 : decode cX8_cutsOf 11 = .ok (.if_icmp .gt 25, 3) := by decide +kernel
theorem dX8_cutsOf_14 : decode cX8_cutsOf 14 = .ok (.aload_n 0, 1) := by decide +kernel
theorem dX8_cutsOf_15 : decode cX8_cutsOf 15 = .ok (.getfield 41, 3) := by decide +kernel
theorem dX8_cutsOf_18 : decode cX8_cutsOf 18 = .ok (.iload_n 3, 1) := by decide +kernel
theorem dX8_cutsOf_19 : decode cX8_cutsOf 19 = .ok (.iload_n 3, 1) := by decide +kernel
theorem dX8_cutsOf_20 : decode cX8_cutsOf 20 = .ok (.iload_n 2, 1) := by decide +kernel
theorem dX8_cutsOf_21 : decode cX8_cutsOf 21 = .ok (.if_icmp .ne 7, 3) := by decide +kernel
theorem dX8_cutsOf_24 : decode cX8_cutsOf 24 = .ok (.lconst 1, 1) := by decide +kernel
theorem dX8_cutsOf_25 : decode cX8_cutsOf 25 = .ok (.goto 4, 3) := by decide +kernel
theorem dX8_cutsOf_28 : decode cX8_cutsOf 28 = .ok (.lconst 0, 1) := by decide +kernel
theorem dX8_cutsOf_29 : decode cX8_cutsOf 29 = .ok (.lastore, 1) := by decide +kernel
theorem dX8_cutsOf_30 : decode cX8_cutsOf 30 = .ok (.iinc 3 1, 3) := by decide +kernel
theorem dX8_cutsOf_33 : decode cX8_cutsOf 33 = .ok (.goto (-24), 3) := by decide +kernel
theorem dX8_cutsOf_36 : decode cX8_cutsOf 36 = .ok (.iload_n 2, 1) := by decide +kernel
theorem dX8_cutsOf_37 : decode cX8_cutsOf 37 = .ok (.iconst 1, 1) := by decide +kernel
theorem dX8_cutsOf_38 : decode cX8_cutsOf 38 = .ok (.isub, 1) := by decide +kernel
theorem dX8_cutsOf_39 : decode cX8_cutsOf 39 = .ok (.istore_n 3, 1) := by decide +kernel
theorem dX8_cutsOf_40 : decode cX8_cutsOf 40 = .ok (.iload_n 3, 1) := by decide +kernel
theorem dX8_cutsOf_41 : decode cX8_cutsOf 41 = .ok (.ifCond .lt 62, 3) := by decide +kernel
theorem dX8_cutsOf_44 : decode cX8_cutsOf 44 = .ok (.iconst 1, 1) := by decide +kernel
theorem dX8_cutsOf_45 : decode cX8_cutsOf 45 = .ok (.istore 4, 2) := by decide +kernel
theorem dX8_cutsOf_47 : decode cX8_cutsOf 47 = .ok (.iload 4, 2) := by decide +kernel
theorem dX8_cutsOf_49 : decode cX8_cutsOf 49 = .ok (.aload_n 0, 1) := by decide +kernel
theorem dX8_cutsOf_50 : decode cX8_cutsOf 50 = .ok (.iload_n 1, 1) := by decide +kernel
theorem dX8_cutsOf_51 : decode cX8_cutsOf 51 = .ok (.iload_n 3, 1) := by decide +kernel
theorem dX8_cutsOf_52 : decode cX8_cutsOf 52 = .ok (.invokevirtual 89, 3) := by decide +kernel
theorem dX8_cutsOf_55 : decode cX8_cutsOf 55 = .ok (.if_icmp .gt 42, 3) := by decide +kernel
theorem dX8_cutsOf_58 : decode cX8_cutsOf 58 = .ok (.aload_n 0, 1) := by decide +kernel
theorem dX8_cutsOf_59 : decode cX8_cutsOf 59 = .ok (.getfield 41, 3) := by decide +kernel
theorem dX8_cutsOf_62 : decode cX8_cutsOf 62 = .ok (.iload_n 3, 1) := by decide +kernel
theorem dX8_cutsOf_63 : decode cX8_cutsOf 63 = .ok (.dup2, 1) := by decide +kernel
theorem dX8_cutsOf_64 : decode cX8_cutsOf 64 = .ok (.laload, 1) := by decide +kernel
theorem dX8_cutsOf_65 : decode cX8_cutsOf 65 = .ok (.aload_n 0, 1) := by decide +kernel
theorem dX8_cutsOf_66 : decode cX8_cutsOf 66 = .ok (.iload_n 1, 1) := by decide +kernel
theorem dX8_cutsOf_67 : decode cX8_cutsOf 67 = .ok (.iload_n 3, 1) := by decide +kernel
theorem dX8_cutsOf_68 : decode cX8_cutsOf 68 = .ok (.iload 4, 2) := by decide +kernel
theorem dX8_cutsOf_70 : decode cX8_cutsOf 70 = .ok (.invokevirtual 92, 3) := by decide +kernel
theorem dX8_cutsOf_73 : decode cX8_cutsOf 73 = .ok (.ifCond .le 15, 3) := by decide +kernel
theorem dX8_cutsOf_76 : decode cX8_cutsOf 76 = .ok (.aload_n 0, 1) := by decide +kernel
theorem dX8_cutsOf_77 : decode cX8_cutsOf 77 = .ok (.getfield 41, 3) := by decide +kernel
theorem dX8_cutsOf_80 : decode cX8_cutsOf 80 = .ok (.iload_n 3, 1) := by decide +kernel
theorem dX8_cutsOf_81 : decode cX8_cutsOf 81 = .ok (.iload 4, 2) := by decide +kernel
theorem dX8_cutsOf_83 : decode cX8_cutsOf 83 = .ok (.iadd, 1) := by decide +kernel
theorem dX8_cutsOf_84 : decode cX8_cutsOf 84 = .ok (.laload, 1) := by decide +kernel
theorem dX8_cutsOf_85 : decode cX8_cutsOf 85 = .ok (.goto 4, 3) := by decide +kernel
theorem dX8_cutsOf_88 : decode cX8_cutsOf 88 = .ok (.lconst 0, 1) := by decide +kernel
theorem dX8_cutsOf_89 : decode cX8_cutsOf 89 = .ok (.ladd, 1) := by decide +kernel
theorem dX8_cutsOf_90 : decode cX8_cutsOf 90 = .ok (.lastore, 1) := by decide +kernel
theorem dX8_cutsOf_91 : decode cX8_cutsOf 91 = .ok (.iinc 4 1, 3) := by decide +kernel
theorem dX8_cutsOf_94 : decode cX8_cutsOf 94 = .ok (.goto (-47), 3) := by decide +kernel
theorem dX8_cutsOf_97 : decode cX8_cutsOf 97 = .ok (.iinc 3 (-1), 3) := by decide +kernel
theorem dX8_cutsOf_100 : decode cX8_cutsOf 100 = .ok (.goto (-60), 3) := by decide +kernel
theorem dX8_cutsOf_103 : decode cX8_cutsOf 103 = .ok (.aload_n 0, 1) := by decide +kernel
theorem dX8_cutsOf_104 : decode cX8_cutsOf 104 = .ok (.getfield 41, 3) := by decide +kernel
theorem dX8_cutsOf_107 : decode cX8_cutsOf 107 = .ok (.iconst 0, 1) := by decide +kernel
theorem dX8_cutsOf_108 : decode cX8_cutsOf 108 = .ok (.laload, 1) := by decide +kernel
theorem dX8_cutsOf_109 : decode cX8_cutsOf 109 = .ok (.l2i, 1) := by decide +kernel
theorem dX8_cutsOf_110 : decode cX8_cutsOf 110 = .ok (.ireturn, 1) := by decide +kernel
set_option maxRecDepth 20000 in
theorem ggX8_findBears_X8_findTotals : GoodIn wsX8_findBears wsX8_findTotals := goodIn_r _ [7, 8, 9, 10, 11, 12, 6, 13, 1, 14, 15, 16, 17, 18, 19, 20, 21, 22, 23, 24, 25, 26, 27, 28, 29, 30, 31, 32, 33, 34, 35, 36, 37, 43, 44, 45, 46, 47, 48, 49, 50, 51, 52, 53, 54, 55, 56, 57, 58, 59, 60] (by decide +kernel) (by decide +kernel)
set_option maxRecDepth 20000 in
theorem gX8_findBears_X8_findTotals : GoodIn wsX8_findBears (wsV RX8 107 RX8 yX8_findTotals wsX8_findTotals) := goodIn_app (goodIn_of _ (by decide +kernel)) ggX8_findBears_X8_findTotals
set_option maxRecDepth 20000 in
theorem ggX8_findBears_X8_wordPart : GoodIn wsX8_findBears wsX8_wordPart := goodIn_r _ [13, 1, 43, 44, 45, 46, 47, 48, 49, 50, 51, 52, 53, 54, 55, 56, 57, 58, 59, 60] (by decide +kernel) (by decide +kernel)
set_option maxRecDepth 20000 in
theorem gX8_findBears_X8_wordPart : GoodIn wsX8_findBears (wsV RX8 72 RX8 yX8_wordPart wsX8_wordPart) := goodIn_app (goodIn_of _ (by decide +kernel)) ggX8_findBears_X8_wordPart
set_option maxRecDepth 20000 in
theorem ggX8_findBears_X8_shareIn : GoodIn wsX8_findBears wsX8_shareIn := goodIn_r _ [41, 8, 9, 42, 34, 35, 36, 6, 37, 1, 30, 31, 32, 33, 10, 11, 12, 13, 22, 23, 24, 25, 43, 44, 45, 46, 47, 48, 49, 50, 51, 52, 53, 54, 55, 56, 57, 58, 59, 60] (by decide +kernel) (by decide +kernel)
set_option maxRecDepth 20000 in
theorem gX8_findBears_X8_shareIn : GoodIn wsX8_findBears (wsV RX8 110 RX8 yX8_shareIn wsX8_shareIn) := goodIn_app (goodIn_of _ (by decide +kernel)) ggX8_findBears_X8_shareIn
theorem dX8_findBears_0 : decode cX8_findBears 0 = .ok (.iconst 0, 1) := by decide +kernel
theorem dX8_findBears_1 : decode cX8_findBears 1 = .ok (.istore_n 1, 1) := by decide +kernel
theorem dX8_findBears_2 : decode cX8_findBears 2 = .ok (.iload_n 1, 1) := by decide +kernel
theorem dX8_findBears_3 : decode cX8_findBears 3 = .ok (.aload_n 0, 1) := by decide +kernel
theorem dX8_findBears_4 : decode cX8_findBears 4 = .ok (.getfield 7, 3) := by decide +kernel
theorem dX8_findBears_7 : decode cX8_findBears 7 = .ok (.iconst 0, 1) := by decide +kernel
theorem dX8_findBears_8 : decode cX8_findBears 8 = .ok (.iaload, 1) := by decide +kernel
theorem dX8_findBears_9 : decode cX8_findBears 9 = .ok (.if_icmp .ge 16, 3) := by decide +kernel
theorem dX8_findBears_12 : decode cX8_findBears 12 = .ok (.aload_n 0, 1) := by decide +kernel
theorem dX8_findBears_13 : decode cX8_findBears 13 = .ok (.getfield 53, 3) := by decide +kernel
theorem dX8_findBears_16 : decode cX8_findBears 16 = .ok (.iload_n 1, 1) := by decide +kernel
theorem dX8_findBears_17 : decode cX8_findBears 17 = .ok (.iconst 0, 1) := by decide +kernel
theorem dX8_findBears_18 : decode cX8_findBears 18 = .ok (.iastore, 1) := by decide +kernel
theorem dX8_findBears_19 : decode cX8_findBears 19 = .ok (.iinc 1 1, 3) := by decide +kernel
theorem dX8_findBears_22 : decode cX8_findBears 22 = .ok (.goto (-20), 3) := by decide +kernel
theorem dX8_findBears_25 : decode cX8_findBears 25 = .ok (.iconst 0, 1) := by decide +kernel
theorem dX8_findBears_26 : decode cX8_findBears 26 = .ok (.istore_n 1, 1) := by decide +kernel
theorem dX8_findBears_27 : decode cX8_findBears 27 = .ok (.iload_n 1, 1) := by decide +kernel
theorem dX8_findBears_28 : decode cX8_findBears 28 = .ok (.aload_n 0, 1) := by decide +kernel
theorem dX8_findBears_29 : decode cX8_findBears 29 = .ok (.getfield 7, 3) := by decide +kernel
theorem dX8_findBears_32 : decode cX8_findBears 32 = .ok (.iconst 1, 1) := by decide +kernel
theorem dX8_findBears_33 : decode cX8_findBears 33 = .ok (.iaload, 1) := by decide +kernel
theorem dX8_findBears_34 : decode cX8_findBears 34 = .ok (.if_icmp .ge 54, 3) := by decide +kernel
theorem dX8_findBears_37 : decode cX8_findBears 37 = .ok (.aload_n 0, 1) := by decide +kernel
theorem dX8_findBears_38 : decode cX8_findBears 38 = .ok (.iload_n 1, 1) := by decide +kernel
theorem dX8_findBears_39 : decode cX8_findBears 39 = .ok (.invokevirtual 107, 3) := by decide +kernel
theorem dX8_findBears_42 : decode cX8_findBears 42 = .ok (.iconst 0, 1) := by decide +kernel
theorem dX8_findBears_43 : decode cX8_findBears 43 = .ok (.istore_n 2, 1) := by decide +kernel
theorem dX8_findBears_44 : decode cX8_findBears 44 = .ok (.iload_n 2, 1) := by decide +kernel
theorem dX8_findBears_45 : decode cX8_findBears 45 = .ok (.aload_n 0, 1) := by decide +kernel
theorem dX8_findBears_46 : decode cX8_findBears 46 = .ok (.getfield 7, 3) := by decide +kernel
theorem dX8_findBears_49 : decode cX8_findBears 49 = .ok (.iconst 0, 1) := by decide +kernel
theorem dX8_findBears_50 : decode cX8_findBears 50 = .ok (.iaload, 1) := by decide +kernel
theorem dX8_findBears_51 : decode cX8_findBears 51 = .ok (.if_icmp .ge 31, 3) := by decide +kernel
theorem dX8_findBears_54 : decode cX8_findBears 54 = .ok (.aload_n 0, 1) := by decide +kernel
theorem dX8_findBears_55 : decode cX8_findBears 55 = .ok (.getfield 53, 3) := by decide +kernel
theorem dX8_findBears_58 : decode cX8_findBears 58 = .ok (.iload_n 2, 1) := by decide +kernel
theorem dX8_findBears_59 : decode cX8_findBears 59 = .ok (.dup2, 1) := by decide +kernel
theorem dX8_findBears_60 : decode cX8_findBears 60 = .ok (.iaload, 1) := by decide +kernel
theorem dX8_findBears_61 : decode cX8_findBears 61 = .ok (.aload_n 0, 1) := by decide +kernel
theorem dX8_findBears_62 : decode cX8_findBears 62 = .ok (.iload_n 1, 1) := by decide +kernel
theorem dX8_findBears_63 : decode cX8_findBears 63 = .ok (.iconst 1, 1) := by decide +kernel
theorem dX8_findBears_64 : decode cX8_findBears 64 = .ok (.invokevirtual 72, 3) := by decide +kernel
theorem dX8_findBears_67 : decode cX8_findBears 67 = .ok (.aload_n 0, 1) := by decide +kernel
theorem dX8_findBears_68 : decode cX8_findBears 68 = .ok (.iload_n 1, 1) := by decide +kernel
theorem dX8_findBears_69 : decode cX8_findBears 69 = .ok (.iload_n 2, 1) := by decide +kernel
theorem dX8_findBears_70 : decode cX8_findBears 70 = .ok (.invokevirtual 110, 3) := by decide +kernel
theorem dX8_findBears_73 : decode cX8_findBears 73 = .ok (.imul, 1) := by decide +kernel
theorem dX8_findBears_74 : decode cX8_findBears 74 = .ok (.iadd, 1) := by decide +kernel
theorem dX8_findBears_75 : decode cX8_findBears 75 = .ok (.iastore, 1) := by decide +kernel
theorem dX8_findBears_76 : decode cX8_findBears 76 = .ok (.iinc 2 1, 3) := by decide +kernel
theorem dX8_findBears_79 : decode cX8_findBears 79 = .ok (.goto (-35), 3) := by decide +kernel
theorem dX8_findBears_82 : decode cX8_findBears 82 = .ok (.iinc 1 1, 3) := by decide +kernel
theorem dX8_findBears_85 : decode cX8_findBears 85 = .ok (.goto (-58), 3) := by decide +kernel
theorem dX8_findBears_88 : decode cX8_findBears 88 = .ok (.return_, 1) := by decide +kernel
theorem dX8_dropPiece_0 : decode cX8_dropPiece 0 = .ok (.iconst 2, 1) := by decide +kernel
theorem dX8_dropPiece_1 : decode cX8_dropPiece 1 = .ok (.bipush 6, 2) := by decide +kernel
theorem dX8_dropPiece_3 : decode cX8_dropPiece 3 = .ok (.iload_n 1, 1) := by decide +kernel
theorem dX8_dropPiece_4 : decode cX8_dropPiece 4 = .ok (.imul, 1) := by decide +kernel
theorem dX8_dropPiece_5 : decode cX8_dropPiece 5 = .ok (.iadd, 1) := by decide +kernel
theorem dX8_dropPiece_6 : decode cX8_dropPiece 6 = .ok (.istore_n 2, 1) := by decide +kernel
theorem dX8_dropPiece_7 : decode cX8_dropPiece 7 = .ok (.iload_n 2, 1) := by decide +kernel
theorem dX8_dropPiece_8 : decode cX8_dropPiece 8 = .ok (.iconst 2, 1) := by decide +kernel
theorem dX8_dropPiece_9 : decode cX8_dropPiece 9 = .ok (.bipush 6, 2) := by decide +kernel
theorem dX8_dropPiece_11 : decode cX8_dropPiece 11 = .ok (.aload_n 0, 1) := by decide +kernel
theorem dX8_dropPiece_12 : decode cX8_dropPiece 12 = .ok (.getfield 7, 3) := by decide +kernel
theorem dX8_dropPiece_15 : decode cX8_dropPiece 15 = .ok (.iconst 0, 1) := by decide +kernel
theorem dX8_dropPiece_16 : decode cX8_dropPiece 16 = .ok (.iaload, 1) := by decide +kernel
theorem dX8_dropPiece_17 : decode cX8_dropPiece 17 = .ok (.iconst 1, 1) := by decide +kernel
theorem dX8_dropPiece_18 : decode cX8_dropPiece 18 = .ok (.isub, 1) := by decide +kernel
theorem dX8_dropPiece_19 : decode cX8_dropPiece 19 = .ok (.imul, 1) := by decide +kernel
theorem dX8_dropPiece_20 : decode cX8_dropPiece 20 = .ok (.iadd, 1) := by decide +kernel
theorem dX8_dropPiece_21 : decode cX8_dropPiece 21 = .ok (.if_icmp .ge 24, 3) := by decide +kernel
theorem dX8_dropPiece_24 : decode cX8_dropPiece 24 = .ok (.aload_n 0, 1) := by decide +kernel
theorem dX8_dropPiece_25 : decode cX8_dropPiece 25 = .ok (.getfield 7, 3) := by decide +kernel
theorem dX8_dropPiece_28 : decode cX8_dropPiece 28 = .ok (.iload_n 2, 1) := by decide +kernel
theorem dX8_dropPiece_29 : decode cX8_dropPiece 29 = .ok (.aload_n 0, 1) := by decide +kernel
theorem dX8_dropPiece_30 : decode cX8_dropPiece 30 = .ok (.getfield 7, 3) := by decide +kernel
theorem dX8_dropPiece_33 : decode cX8_dropPiece 33 = .ok (.iload_n 2, 1) := by decide +kernel
theorem dX8_dropPiece_34 : decode cX8_dropPiece 34 = .ok (.bipush 6, 2) := by decide +kernel
theorem dX8_dropPiece_36 : decode cX8_dropPiece 36 = .ok (.iadd, 1) := by decide +kernel
theorem dX8_dropPiece_37 : decode cX8_dropPiece 37 = .ok (.iaload, 1) := by decide +kernel
theorem dX8_dropPiece_38 : decode cX8_dropPiece 38 = .ok (.iastore, 1) := by decide +kernel
theorem dX8_dropPiece_39 : decode cX8_dropPiece 39 = .ok (.iinc 2 1, 3) := by decide +kernel
theorem dX8_dropPiece_42 : decode cX8_dropPiece 42 = .ok (.goto (-35), 3) := by decide +kernel
theorem dX8_dropPiece_45 : decode cX8_dropPiece 45 = .ok (.aload_n 0, 1) := by decide +kernel
theorem dX8_dropPiece_46 : decode cX8_dropPiece 46 = .ok (.getfield 7, 3) := by decide +kernel
theorem dX8_dropPiece_49 : decode cX8_dropPiece 49 = .ok (.iconst 0, 1) := by decide +kernel
theorem dX8_dropPiece_50 : decode cX8_dropPiece 50 = .ok (.dup2, 1) := by decide +kernel
theorem dX8_dropPiece_51 : decode cX8_dropPiece 51 = .ok (.iaload, 1) := by decide +kernel
theorem dX8_dropPiece_52 : decode cX8_dropPiece 52 = .ok (.iconst 1, 1) := by decide +kernel
theorem dX8_dropPiece_53 : decode cX8_dropPiece 53 = .ok (.isub, 1) := by decide +kernel
theorem dX8_dropPiece_54 : decode cX8_dropPiece 54 = .ok (.iastore, 1) := by decide +kernel
theorem dX8_dropPiece_55 : decode cX8_dropPiece 55 = .ok (.return_, 1) := by decide +kernel
set_option maxRecDepth 20000 in
theorem ggX8_lossOf_X8_allCosts : GoodIn wsX8_lossOf wsX8_allCosts := goodIn_r _ [7, 1, 8, 9, 10, 6, 11, 12, 13, 14, 15, 16, 17, 18, 19, 20, 21, 22, 23, 24, 25, 26, 27, 28, 29, 30, 31, 32, 33, 34, 35, 36, 37, 38, 39, 40, 41, 42, 43, 44, 45, 46, 47, 48, 49, 50, 58, 59, 60, 61, 62, 63, 64, 65, 66, 67, 68, 69, 70, 71, 72, 73, 74, 75] (by decide +kernel) (by decide +kernel)
set_option maxRecDepth 20000 in
theorem gX8_lossOf_X8_allCosts : GoodIn wsX8_lossOf (wsV RX8 113 RX8 yX8_allCosts wsX8_allCosts) := goodIn_app (goodIn_of _ (by decide +kernel)) ggX8_lossOf_X8_allCosts
set_option maxRecDepth 20000 in
theorem ggX8_lossOf_X8_copy : GoodIn wsX8_lossOf wsX8_copy := goodIn_r _ [53] (by decide +kernel) (by decide +kernel)
set_option maxRecDepth 20000 in
theorem gX8_lossOf_X8_copy : GoodIn wsX8_lossOf (va_wsS RX8 60 yX8_copy wsX8_copy) := goodIn_app (goodIn_of _ (by decide +kernel)) ggX8_lossOf_X8_copy
set_option maxRecDepth 20000 in
theorem ggX8_lossOf_X8_dropPiece : GoodIn wsX8_lossOf wsX8_dropPiece := goodIn_r _ [57, 1, 58, 59, 60, 61, 62, 63, 64, 65, 66, 67, 68, 69, 70, 71, 72, 73, 74, 75] (by decide +kernel) (by decide +kernel)
set_option maxRecDepth 20000 in
theorem gX8_lossOf_X8_dropPiece : GoodIn wsX8_lossOf (wsV RX8 117 RX8 yX8_dropPiece wsX8_dropPiece) := goodIn_app (goodIn_of _ (by decide +kernel)) ggX8_lossOf_X8_dropPiece
theorem dX8_lossOf_0 : decode cX8_lossOf 0 = .ok (.aload_n 0, 1) := by decide +kernel
theorem dX8_lossOf_1 : decode cX8_lossOf 1 = .ok (.invokevirtual 113, 3) := by decide +kernel
theorem dX8_lossOf_4 : decode cX8_lossOf 4 = .ok (.istore_n 2, 1) := by decide +kernel
theorem dX8_lossOf_5 : decode cX8_lossOf 5 = .ok (.aload_n 0, 1) := by decide +kernel
theorem dX8_lossOf_6 : decode cX8_lossOf 6 = .ok (.getfield 7, 3) := by decide +kernel
theorem dX8_lossOf_9 : decode cX8_lossOf 9 = .ok (.iconst 0, 1) := by decide +kernel
theorem dX8_lossOf_10 : decode cX8_lossOf 10 = .ok (.aload_n 0, 1) := by decide +kernel
theorem dX8_lossOf_11 : decode cX8_lossOf 11 = .ok (.getfield 13, 3) := by decide +kernel
theorem dX8_lossOf_14 : decode cX8_lossOf 14 = .ok (.iconst 0, 1) := by decide +kernel
theorem dX8_lossOf_15 : decode cX8_lossOf 15 = .ok (.invokestatic 60, 3) := by decide +kernel
theorem dX8_lossOf_18 : decode cX8_lossOf 18 = .ok (.aload_n 0, 1) := by decide +kernel
theorem dX8_lossOf_19 : decode cX8_lossOf 19 = .ok (.iload_n 1, 1) := by decide +kernel
theorem dX8_lossOf_20 : decode cX8_lossOf 20 = .ok (.invokevirtual 117, 3) := by decide +kernel
theorem dX8_lossOf_23 : decode cX8_lossOf 23 = .ok (.aload_n 0, 1) := by decide +kernel
theorem dX8_lossOf_24 : decode cX8_lossOf 24 = .ok (.invokevirtual 113, 3) := by decide +kernel
theorem dX8_lossOf_27 : decode cX8_lossOf 27 = .ok (.istore_n 3, 1) := by decide +kernel
theorem dX8_lossOf_28 : decode cX8_lossOf 28 = .ok (.aload_n 0, 1) := by decide +kernel
theorem dX8_lossOf_29 : decode cX8_lossOf 29 = .ok (.getfield 13, 3) := by decide +kernel
theorem dX8_lossOf_32 : decode cX8_lossOf 32 = .ok (.iconst 0, 1) := by decide +kernel
theorem dX8_lossOf_33 : decode cX8_lossOf 33 = .ok (.aload_n 0, 1) := by decide +kernel
theorem dX8_lossOf_34 : decode cX8_lossOf 34 = .ok (.getfield 7, 3) := by decide +kernel
theorem dX8_lossOf_37 : decode cX8_lossOf 37 = .ok (.iconst 0, 1) := by decide +kernel
theorem dX8_lossOf_38 : decode cX8_lossOf 38 = .ok (.invokestatic 60, 3) := by decide +kernel
theorem dX8_lossOf_41 : decode cX8_lossOf 41 = .ok (.iload_n 3, 1) := by decide +kernel
theorem dX8_lossOf_42 : decode cX8_lossOf 42 = .ok (.iload_n 2, 1) := by decide +kernel
theorem dX8_lossOf_43 : decode cX8_lossOf 43 = .ok (.isub, 1) := by decide +kernel
theorem dX8_lossOf_44 : decode cX8_lossOf 44 = .ok (.ireturn, 1) := by decide +kernel
set_option maxRecDepth 20000 in
theorem ggX8_leastOf_X8_lossOf : GoodIn wsX8_leastOf wsX8_lossOf := goodIn_r _ [6, 1, 7, 8, 9, 10, 5, 11, 12, 13, 14, 15, 16, 17, 18, 19, 20, 21, 22, 23, 24, 25, 26, 27, 28, 29, 30, 31, 32, 33, 34, 35, 36, 37, 38, 39, 40, 41, 42, 43, 44, 45, 46, 47, 48, 49, 50, 51, 52, 53, 54, 55, 56, 57, 58, 59, 60, 61, 62, 63, 64, 65, 66, 67, 68, 69, 70, 71, 72, 73, 74, 75, 76, 77, 78, 79] (by decide +kernel) (by decide +kernel)
set_option maxRecDepth 20000 in
theorem gX8_leastOf_X8_lossOf : GoodIn wsX8_leastOf (wsV RX8 120 RX8 yX8_lossOf wsX8_lossOf) := goodIn_app (goodIn_of _ (by decide +kernel)) ggX8_leastOf_X8_lossOf
set_option maxRecDepth 20000 in
theorem ggX8_leastOf_X8_piecePart : GoodIn wsX8_leastOf wsX8_piecePart := goodIn_r _ [50, 1, 62, 63, 64, 65, 66, 67, 68, 69, 70, 71, 72, 73, 74, 75, 76, 77, 78, 79] (by decide +kernel) (by decide +kernel)
set_option maxRecDepth 20000 in
theorem gX8_leastOf_X8_piecePart : GoodIn wsX8_leastOf (wsV RX8 68 RX8 yX8_piecePart wsX8_piecePart) := goodIn_app (goodIn_of _ (by decide +kernel)) ggX8_leastOf_X8_piecePart
theorem dX8_leastOf_0 : decode cX8_leastOf 0 = .ok (.bipush (-6), 2) := by decide +kernel
theorem dX8_leastOf_2 : decode cX8_leastOf 2 = .ok (.istore_n 1, 1) := by decide +kernel
theorem dX8_leastOf_3 : decode cX8_leastOf 3 = .ok (.iconst 0, 1) := by decide +kernel
theorem dX8_leastOf_4 : decode cX8_leastOf 4 = .ok (.istore_n 2, 1) := by decide +kernel
theorem dX8_leastOf_5 : decode cX8_leastOf 5 = .ok (.iconst 0, 1) := by decide +kernel
theorem dX8_leastOf_6 : decode cX8_leastOf 6 = .ok (.istore_n 3, 1) := by decide +kernel
theorem dX8_leastOf_7 : decode cX8_leastOf 7 = .ok (.iload_n 3, 1) := by decide +kernel
theorem dX8_leastOf_8 : decode cX8_leastOf 8 = .ok (.aload_n 0, 1) := by decide +kernel
theorem dX8_leastOf_9 : decode cX8_leastOf 9 = .ok (.getfield 7, 3) := by decide +kernel
theorem dX8_leastOf_12 : decode cX8_leastOf 12 = .ok (.iconst 0, 1) := by decide +kernel
theorem dX8_leastOf_13 : decode cX8_leastOf 13 = .ok (.iaload, 1) := by decide +kernel
theorem dX8_leastOf_14 : decode cX8_leastOf 14 = .ok (.if_icmp .ge 79, 3) := by decide +kernel
theorem dX8_leastOf_17 : decode cX8_leastOf 17 = .ok (.aload_n 0, 1) := by decide +kernel
theorem dX8_leastOf_18 : decode cX8_leastOf 18 = .ok (.iload_n 3, 1) := by decide +kernel
theorem dX8_leastOf_19 : decode cX8_leastOf 19 = .ok (.invokevirtual 120, 3) := by decide +kernel
theorem dX8_leastOf_22 : decode cX8_leastOf 22 = .ok (.istore 4, 2) := by decide +kernel
theorem dX8_leastOf_24 : decode cX8_leastOf 24 = .ok (.iload_n 1, 1) := by decide +kernel
theorem dX8_leastOf_25 : decode cX8_leastOf 25 = .ok (.bipush (-6), 2) := by decide +kernel
theorem dX8_leastOf_27 : decode cX8_leastOf 27 = .ok (.if_icmp .eq 30, 3) := by decide +kernel
theorem dX8_leastOf_30 : decode cX8_leastOf 30 = .ok (.iload 4, 2) := by decide +kernel
theorem dX8_leastOf_32 : decode cX8_leastOf 32 = .ok (.iload_n 2, 1) := by decide +kernel
theorem dX8_leastOf_33 : decode cX8_leastOf 33 = .ok (.if_icmp .lt 24, 3) := by decide +kernel
theorem dX8_leastOf_36 : decode cX8_leastOf 36 = .ok (.iload 4, 2) := by decide +kernel
theorem dX8_leastOf_38 : decode cX8_leastOf 38 = .ok (.iload_n 2, 1) := by decide +kernel
theorem dX8_leastOf_39 : decode cX8_leastOf 39 = .ok (.if_icmp .ne 22, 3) := by decide +kernel
theorem dX8_leastOf_42 : decode cX8_leastOf 42 = .ok (.aload_n 0, 1) := by decide +kernel
theorem dX8_leastOf_43 : decode cX8_leastOf 43 = .ok (.iload_n 3, 1) := by decide +kernel
theorem dX8_leastOf_44 : decode cX8_leastOf 44 = .ok (.iconst 1, 1) := by decide +kernel
theorem dX8_leastOf_45 : decode cX8_leastOf 45 = .ok (.invokevirtual 68, 3) := by decide +kernel
theorem dX8_leastOf_48 : decode cX8_leastOf 48 = .ok (.aload_n 0, 1) := by decide +kernel
theorem dX8_leastOf_49 : decode cX8_leastOf 49 = .ok (.iload_n 1, 1) := by decide +kernel
theorem dX8_leastOf_50 : decode cX8_leastOf 50 = .ok (.iconst 1, 1) := by decide +kernel
theorem dX8_leastOf_51 : decode cX8_leastOf 51 = .ok (.invokevirtual 68, 3) := by decide +kernel
theorem dX8_leastOf_54 : decode cX8_leastOf 54 = .ok (.if_icmp .gt 7, 3) := by decide +kernel
theorem dX8_leastOf_57 : decode cX8_leastOf 57 = .ok (.iconst 1, 1) := by decide +kernel
theorem dX8_leastOf_58 : decode cX8_leastOf 58 = .ok (.goto 4, 3) := by decide +kernel
theorem dX8_leastOf_61 : decode cX8_leastOf 61 = .ok (.iconst 0, 1) := by decide +kernel
theorem dX8_leastOf_62 : decode cX8_leastOf 62 = .ok (.istore 5, 2) := by decide +kernel
theorem dX8_leastOf_64 : decode cX8_leastOf 64 = .ok (.iload 5, 2) := by decide +kernel
theorem dX8_leastOf_66 : decode cX8_leastOf 66 = .ok (.ifCond .eq 7, 3) := by decide +kernel
theorem dX8_leastOf_69 : decode cX8_leastOf 69 = .ok (.iload_n 3, 1) := by decide +kernel
theorem dX8_leastOf_70 : decode cX8_leastOf 70 = .ok (.goto 4, 3) := by decide +kernel
theorem dX8_leastOf_73 : decode cX8_leastOf 73 = .ok (.iload_n 1, 1) := by decide +kernel
theorem dX8_leastOf_74 : decode cX8_leastOf 74 = .ok (.istore_n 1, 1) := by decide +kernel
theorem dX8_leastOf_75 : decode cX8_leastOf 75 = .ok (.iload 5, 2) := by decide +kernel
theorem dX8_leastOf_77 : decode cX8_leastOf 77 = .ok (.ifCond .eq 8, 3) := by decide +kernel
theorem dX8_leastOf_80 : decode cX8_leastOf 80 = .ok (.iload 4, 2) := by decide +kernel
theorem dX8_leastOf_82 : decode cX8_leastOf 82 = .ok (.goto 4, 3) := by decide +kernel
theorem dX8_leastOf_85 : decode cX8_leastOf 85 = .ok (.iload_n 2, 1) := by decide +kernel
theorem dX8_leastOf_86 : decode cX8_leastOf 86 = .ok (.istore_n 2, 1) := by decide +kernel
theorem dX8_leastOf_87 : decode cX8_leastOf 87 = .ok (.iinc 3 1, 3) := by decide +kernel
theorem dX8_leastOf_90 : decode cX8_leastOf 90 = .ok (.goto (-83), 3) := by decide +kernel
theorem dX8_leastOf_93 : decode cX8_leastOf 93 = .ok (.iload_n 1, 1) := by decide +kernel
theorem dX8_leastOf_94 : decode cX8_leastOf 94 = .ok (.ireturn, 1) := by decide +kernel
set_option maxRecDepth 20000 in
theorem ggX8_addPiece_X8_lengthOf : GoodIn wsX8_addPiece wsX8_lengthOf := goodIn_r _ [5] (by decide +kernel) (by decide +kernel)
set_option maxRecDepth 20000 in
theorem gX8_addPiece_X8_lengthOf : GoodIn wsX8_addPiece (va_wsS RX8 75 yX8_lengthOf wsX8_lengthOf) := goodIn_app (goodIn_of _ (by decide +kernel)) ggX8_addPiece_X8_lengthOf
set_option maxRecDepth 20000 in
theorem ggX8_addPiece_X8_letterOf : GoodIn wsX8_addPiece wsX8_letterOf := goodIn_r _ [8, 2, 3, 4, 5] (by decide +kernel) (by decide +kernel)
set_option maxRecDepth 20000 in
theorem gX8_addPiece_X8_letterOf : GoodIn wsX8_addPiece (va_wsS RX8 123 yX8_letterOf wsX8_letterOf) := goodIn_app (goodIn_of _ (by decide +kernel)) ggX8_addPiece_X8_letterOf
theorem dX8_addPiece_0 : decode cX8_addPiece 0 = .ok (.aload_n 0, 1) := by decide +kernel
theorem dX8_addPiece_1 : decode cX8_addPiece 1 = .ok (.getfield 7, 3) := by decide +kernel
theorem dX8_addPiece_4 : decode cX8_addPiece 4 = .ok (.iconst 0, 1) := by decide +kernel
theorem dX8_addPiece_5 : decode cX8_addPiece 5 = .ok (.iaload, 1) := by decide +kernel
theorem dX8_addPiece_6 : decode cX8_addPiece 6 = .ok (.istore_n 3, 1) := by decide +kernel
theorem dX8_addPiece_7 : decode cX8_addPiece 7 = .ok (.iconst 2, 1) := by decide +kernel
theorem dX8_addPiece_8 : decode cX8_addPiece 8 = .ok (.bipush 6, 2) := by decide +kernel
theorem dX8_addPiece_10 : decode cX8_addPiece 10 = .ok (.iload_n 3, 1) := by decide +kernel
theorem dX8_addPiece_11 : decode cX8_addPiece 11 = .ok (.imul, 1) := by decide +kernel
theorem dX8_addPiece_12 : decode cX8_addPiece 12 = .ok (.iadd, 1) := by decide +kernel
theorem dX8_addPiece_13 : decode cX8_addPiece 13 = .ok (.istore 4, 2) := by decide +kernel
theorem dX8_addPiece_15 : decode cX8_addPiece 15 = .ok (.iload_n 1, 1) := by decide +kernel
theorem dX8_addPiece_16 : decode cX8_addPiece 16 = .ok (.invokestatic 75, 3) := by decide +kernel
theorem dX8_addPiece_19 : decode cX8_addPiece 19 = .ok (.istore 5, 2) := by decide +kernel
theorem dX8_addPiece_21 : decode cX8_addPiece 21 = .ok (.aload_n 0, 1) := by decide +kernel
theorem dX8_addPiece_22 : decode cX8_addPiece 22 = .ok (.getfield 7, 3) := by decide +kernel
theorem dX8_addPiece_25 : decode cX8_addPiece 25 = .ok (.iload 4, 2) := by decide +kernel
theorem dX8_addPiece_27 : decode cX8_addPiece 27 = .ok (.iconst 0, 1) := by decide +kernel
theorem dX8_addPiece_28 : decode cX8_addPiece 28 = .ok (.iadd, 1) := by decide +kernel
theorem dX8_addPiece_29 : decode cX8_addPiece 29 = .ok (.iload 5, 2) := by decide +kernel
theorem dX8_addPiece_31 : decode cX8_addPiece 31 = .ok (.iastore, 1) := by decide +kernel
theorem dX8_addPiece_32 : decode cX8_addPiece 32 = .ok (.aload_n 0, 1) := by decide +kernel
theorem dX8_addPiece_33 : decode cX8_addPiece 33 = .ok (.getfield 7, 3) := by decide +kernel
theorem dX8_addPiece_36 : decode cX8_addPiece 36 = .ok (.iload 4, 2) := by decide +kernel
theorem dX8_addPiece_38 : decode cX8_addPiece 38 = .ok (.iconst 1, 1) := by decide +kernel
theorem dX8_addPiece_39 : decode cX8_addPiece 39 = .ok (.iadd, 1) := by decide +kernel
theorem dX8_addPiece_40 : decode cX8_addPiece 40 = .ok (.iload_n 2, 1) := by decide +kernel
theorem dX8_addPiece_41 : decode cX8_addPiece 41 = .ok (.iastore, 1) := by decide +kernel
theorem dX8_addPiece_42 : decode cX8_addPiece 42 = .ok (.iconst 0, 1) := by decide +kernel
theorem dX8_addPiece_43 : decode cX8_addPiece 43 = .ok (.istore 6, 2) := by decide +kernel
theorem dX8_addPiece_45 : decode cX8_addPiece 45 = .ok (.iload 6, 2) := by decide +kernel
theorem dX8_addPiece_47 : decode cX8_addPiece 47 = .ok (.iconst 4, 1) := by decide +kernel
theorem dX8_addPiece_48 : decode cX8_addPiece 48 = .ok (.if_icmp .ge 40, 3) := by decide +kernel
theorem dX8_addPiece_51 : decode cX8_addPiece 51 = .ok (.aload_n 0, 1) := by decide +kernel
theorem dX8_addPiece_52 : decode cX8_addPiece 52 = .ok (.getfield 7, 3) := by decide +kernel
theorem dX8_addPiece_55 : decode cX8_addPiece 55 = .ok (.iload 4, 2) := by decide +kernel
theorem dX8_addPiece_57 : decode cX8_addPiece 57 = .ok (.iconst 2, 1) := by decide +kernel
theorem dX8_addPiece_58 : decode cX8_addPiece 58 = .ok (.iadd, 1) := by decide +kernel
theorem dX8_addPiece_59 : decode cX8_addPiece 59 = .ok (.iload 6, 2) := by decide +kernel
theorem dX8_addPiece_61 : decode cX8_addPiece 61 = .ok (.iadd, 1) := by decide +kernel
theorem dX8_addPiece_62 : decode cX8_addPiece 62 = .ok (.iload 6, 2) := by decide +kernel
theorem dX8_addPiece_64 : decode cX8_addPiece 64 = .ok (.iload 5, 2) := by decide +kernel
theorem dX8_addPiece_66 : decode cX8_addPiece 66 = .ok (.if_icmp .ge 14, 3) := by decide +kernel
theorem dX8_addPiece_69 : decode cX8_addPiece 69 = .ok (.iload_n 1, 1) := by decide +kernel
theorem dX8_addPiece_70 : decode cX8_addPiece 70 = .ok (.iload 6, 2) := by decide +kernel
theorem dX8_addPiece_72 : decode cX8_addPiece 72 = .ok (.invokestatic 123, 3) := by decide +kernel
theorem dX8_addPiece_75 : decode cX8_addPiece 75 = .ok (.iconst 1, 1) := by decide +kernel
theorem dX8_addPiece_76 : decode cX8_addPiece 76 = .ok (.iadd, 1) := by decide +kernel
theorem dX8_addPiece_77 : decode cX8_addPiece 77 = .ok (.goto 4, 3) := by decide +kernel
theorem dX8_addPiece_80 : decode cX8_addPiece 80 = .ok (.iconst 0, 1) := by decide +kernel
theorem dX8_addPiece_81 : decode cX8_addPiece 81 = .ok (.iastore, 1) := by decide +kernel
theorem dX8_addPiece_82 : decode cX8_addPiece 82 = .ok (.iinc 6 1, 3) := by decide +kernel
theorem dX8_addPiece_85 : decode cX8_addPiece 85 = .ok (.goto (-40), 3) := by decide +kernel
theorem dX8_addPiece_88 : decode cX8_addPiece 88 = .ok (.aload_n 0, 1) := by decide +kernel
theorem dX8_addPiece_89 : decode cX8_addPiece 89 = .ok (.getfield 7, 3) := by decide +kernel
theorem dX8_addPiece_92 : decode cX8_addPiece 92 = .ok (.iconst 0, 1) := by decide +kernel
theorem dX8_addPiece_93 : decode cX8_addPiece 93 = .ok (.dup2, 1) := by decide +kernel
theorem dX8_addPiece_94 : decode cX8_addPiece 94 = .ok (.iaload, 1) := by decide +kernel
theorem dX8_addPiece_95 : decode cX8_addPiece 95 = .ok (.iconst 1, 1) := by decide +kernel
theorem dX8_addPiece_96 : decode cX8_addPiece 96 = .ok (.iadd, 1) := by decide +kernel
theorem dX8_addPiece_97 : decode cX8_addPiece 97 = .ok (.iastore, 1) := by decide +kernel
theorem dX8_addPiece_98 : decode cX8_addPiece 98 = .ok (.iload_n 3, 1) := by decide +kernel
theorem dX8_addPiece_99 : decode cX8_addPiece 99 = .ok (.ireturn, 1) := by decide +kernel
set_option maxRecDepth 20000 in
theorem ggX8_findNeighbours_X8_findCut : GoodIn wsX8_findNeighbours wsX8_findCut := goodIn_r _ [11, 12, 13, 3, 14, 15, 16, 10, 17, 2, 18, 19, 20, 21, 22, 23, 24, 25, 26, 27, 28, 29, 30, 31, 32, 33, 34, 35, 36, 37, 38, 39, 40, 41, 42, 43, 44, 45, 46, 47, 48, 49, 50, 51, 52, 53, 54, 55, 56, 57, 58, 59] (by decide +kernel) (by decide +kernel)
set_option maxRecDepth 20000 in
theorem gX8_findNeighbours_X8_findCut : GoodIn wsX8_findNeighbours (wsV RX8 95 RX8 yX8_findCut wsX8_findCut) := goodIn_app (goodIn_of _ (by decide +kernel)) ggX8_findNeighbours_X8_findCut
set_option maxRecDepth 20000 in
theorem ggX8_findNeighbours_X8_wordPart : GoodIn wsX8_findNeighbours wsX8_wordPart := goodIn_r _ [17, 2, 42, 43, 44, 45, 46, 47, 48, 49, 50, 51, 52, 53, 54, 55, 56, 57, 58, 59] (by decide +kernel) (by decide +kernel)
set_option maxRecDepth 20000 in
theorem gX8_findNeighbours_X8_wordPart : GoodIn wsX8_findNeighbours (wsV RX8 72 RX8 yX8_wordPart wsX8_wordPart) := goodIn_app (goodIn_of _ (by decide +kernel)) ggX8_findNeighbours_X8_wordPart
set_option maxRecDepth 20000 in
theorem ggX8_findNeighbours_X8_textIn : GoodIn wsX8_findNeighbours wsX8_textIn := goodIn_r _ [29, 14, 15, 16, 10, 17, 2, 42, 43, 44, 45, 46, 47, 48, 49, 50, 51, 52, 53, 54, 55, 56, 57, 58, 59] (by decide +kernel) (by decide +kernel)
set_option maxRecDepth 20000 in
theorem gX8_findNeighbours_X8_textIn : GoodIn wsX8_findNeighbours (wsV RX8 82 RX8 yX8_textIn wsX8_textIn) := goodIn_app (goodIn_of _ (by decide +kernel)) ggX8_findNeighbours_X8_textIn
set_option maxRecDepth 20000 in
theorem ggX8_findNeighbours_X8_pieceOf : GoodIn wsX8_findNeighbours wsX8_pieceOf := goodIn_r _ [33, 2, 34, 35, 36, 10, 37, 38, 39, 40, 41, 42, 43, 44, 45, 46, 47, 48, 49, 50, 51, 52, 53, 54, 55, 56, 57, 58, 59] (by decide +kernel) (by decide +kernel)
set_option maxRecDepth 20000 in
theorem gX8_findNeighbours_X8_pieceOf : GoodIn wsX8_findNeighbours (wsV RX8 86 RX8 yX8_pieceOf wsX8_pieceOf) := goodIn_app (goodIn_of _ (by decide +kernel)) ggX8_findNeighbours_X8_pieceOf
set_option maxRecDepth 20000 in
theorem ggX8_findNeighbours_X8_weightIn : GoodIn wsX8_findNeighbours wsX8_weightIn := goodIn_r _ [25, 26, 27, 28, 10, 29, 14, 15, 16, 17, 2, 30, 31, 32, 33, 34, 35, 36, 37, 38, 39, 40, 41, 42, 43, 44, 45, 46, 47, 48, 49, 50, 51, 52, 53, 54, 55, 56, 57, 58, 59] (by decide +kernel) (by decide +kernel)
set_option maxRecDepth 20000 in
theorem gX8_findNeighbours_X8_weightIn : GoodIn wsX8_findNeighbours (wsV RX8 92 RX8 yX8_weightIn wsX8_weightIn) := goodIn_app (goodIn_of _ (by decide +kernel)) ggX8_findNeighbours_X8_weightIn
theorem dX8_findNeighbours_0 : decode cX8_findNeighbours 0 = .ok (.aload_n 0, 1) := by decide +kernel
theorem dX8_findNeighbours_1 : decode cX8_findNeighbours 1 = .ok (.iconst 0, 1) := by decide +kernel
theorem dX8_findNeighbours_2 : decode cX8_findNeighbours 2 = .ok (.putfield 126, 3) := by decide +kernel
theorem dX8_findNeighbours_5 : decode cX8_findNeighbours 5 = .ok (.iconst 0, 1) := by decide +kernel
theorem dX8_findNeighbours_6 : decode cX8_findNeighbours 6 = .ok (.istore_n 1, 1) := by decide +kernel
theorem dX8_findNeighbours_7 : decode cX8_findNeighbours 7 = .ok (.iload_n 1, 1) := by decide +kernel
theorem dX8_findNeighbours_8 : decode cX8_findNeighbours 8 = .ok (.aload_n 0, 1) := by decide +kernel
theorem dX8_findNeighbours_9 : decode cX8_findNeighbours 9 = .ok (.getfield 7, 3) := by decide +kernel
theorem dX8_findNeighbours_12 : decode cX8_findNeighbours 12 = .ok (.iconst 1, 1) := by decide +kernel
theorem dX8_findNeighbours_13 : decode cX8_findNeighbours 13 = .ok (.iaload, 1) := by decide +kernel
theorem dX8_findNeighbours_14 : decode cX8_findNeighbours 14 = .ok (.if_icmp .ge 198, 3) := by decide +kernel
theorem dX8_findNeighbours_17 : decode cX8_findNeighbours 17 = .ok (.aload_n 0, 1) := by decide +kernel
theorem dX8_findNeighbours_18 : decode cX8_findNeighbours 18 = .ok (.iload_n 1, 1) := by decide +kernel
theorem dX8_findNeighbours_19 : decode cX8_findNeighbours 19 = .ok (.invokevirtual 95, 3) := by decide +kernel
theorem dX8_findNeighbours_22 : decode cX8_findNeighbours 22 = .ok (.aload_n 0, 1) := by decide +kernel
theorem dX8_findNeighbours_23 : decode cX8_findNeighbours 23 = .ok (.iload_n 1, 1) := by decide +kernel
theorem dX8_findNeighbours_24 : decode cX8_findNeighbours 24 = .ok (.iconst 0, 1) := by decide +kernel
theorem dX8_findNeighbours_25 : decode cX8_findNeighbours 25 = .ok (.invokevirtual 72, 3) := by decide +kernel
theorem dX8_findNeighbours_28 : decode cX8_findNeighbours 28 = .ok (.istore_n 2, 1) := by decide +kernel
theorem dX8_findNeighbours_29 : decode cX8_findNeighbours 29 = .ok (.iconst 0, 1) := by decide +kernel
theorem dX8_findNeighbours_30 : decode cX8_findNeighbours 30 = .ok (.istore_n 3, 1) := by decide +kernel
theorem dX8_findNeighbours_31 : decode cX8_findNeighbours 31 = .ok (.iload_n 3, 1) := by decide +kernel
theorem dX8_findNeighbours_32 : decode cX8_findNeighbours 32 = .ok (.aload_n 0, 1) := by decide +kernel
theorem dX8_findNeighbours_33 : decode cX8_findNeighbours 33 = .ok (.getfield 35, 3) := by decide +kernel
theorem dX8_findNeighbours_36 : decode cX8_findNeighbours 36 = .ok (.iload_n 3, 1) := by decide +kernel
theorem dX8_findNeighbours_37 : decode cX8_findNeighbours 37 = .ok (.iaload, 1) := by decide +kernel
theorem dX8_findNeighbours_38 : decode cX8_findNeighbours 38 = .ok (.iadd, 1) := by decide +kernel
theorem dX8_findNeighbours_39 : decode cX8_findNeighbours 39 = .ok (.iload_n 2, 1) := by decide +kernel
theorem dX8_findNeighbours_40 : decode cX8_findNeighbours 40 = .ok (.if_icmp .ge 166, 3) := by decide +kernel
theorem dX8_findNeighbours_43 : decode cX8_findNeighbours 43 = .ok (.iload_n 3, 1) := by decide +kernel
theorem dX8_findNeighbours_44 : decode cX8_findNeighbours 44 = .ok (.aload_n 0, 1) := by decide +kernel
theorem dX8_findNeighbours_45 : decode cX8_findNeighbours 45 = .ok (.getfield 35, 3) := by decide +kernel
theorem dX8_findNeighbours_48 : decode cX8_findNeighbours 48 = .ok (.iload_n 3, 1) := by decide +kernel
theorem dX8_findNeighbours_49 : decode cX8_findNeighbours 49 = .ok (.iaload, 1) := by decide +kernel
theorem dX8_findNeighbours_50 : decode cX8_findNeighbours 50 = .ok (.iadd, 1) := by decide +kernel
theorem dX8_findNeighbours_51 : decode cX8_findNeighbours 51 = .ok (.istore 4, 2) := by decide +kernel
theorem dX8_findNeighbours_53 : decode cX8_findNeighbours 53 = .ok (.aload_n 0, 1) := by decide +kernel
theorem dX8_findNeighbours_54 : decode cX8_findNeighbours 54 = .ok (.getfield 35, 3) := by decide +kernel
theorem dX8_findNeighbours_57 : decode cX8_findNeighbours 57 = .ok (.iload_n 3, 1) := by decide +kernel
theorem dX8_findNeighbours_58 : decode cX8_findNeighbours 58 = .ok (.iaload, 1) := by decide +kernel
theorem dX8_findNeighbours_59 : decode cX8_findNeighbours 59 = .ok (.aload_n 0, 1) := by decide +kernel
theorem dX8_findNeighbours_60 : decode cX8_findNeighbours 60 = .ok (.getfield 35, 3) := by decide +kernel
theorem dX8_findNeighbours_63 : decode cX8_findNeighbours 63 = .ok (.iload 4, 2) := by decide +kernel
theorem dX8_findNeighbours_65 : decode cX8_findNeighbours 65 = .ok (.iaload, 1) := by decide +kernel
theorem dX8_findNeighbours_66 : decode cX8_findNeighbours 66 = .ok (.iadd, 1) := by decide +kernel
theorem dX8_findNeighbours_67 : decode cX8_findNeighbours 67 = .ok (.istore 5, 2) := by decide +kernel
theorem dX8_findNeighbours_69 : decode cX8_findNeighbours 69 = .ok (.iload 5, 2) := by decide +kernel
theorem dX8_findNeighbours_71 : decode cX8_findNeighbours 71 = .ok (.iconst 4, 1) := by decide +kernel
theorem dX8_findNeighbours_72 : decode cX8_findNeighbours 72 = .ok (.if_icmp .le 7, 3) := by decide +kernel
theorem dX8_findNeighbours_75 : decode cX8_findNeighbours 75 = .ok (.iconst 0, 1) := by decide +kernel
theorem dX8_findNeighbours_76 : decode cX8_findNeighbours 76 = .ok (.goto 11, 3) := by decide +kernel
theorem dX8_findNeighbours_79 : decode cX8_findNeighbours 79 = .ok (.aload_n 0, 1) := by decide +kernel
theorem dX8_findNeighbours_80 : decode cX8_findNeighbours 80 = .ok (.iload_n 1, 1) := by decide +kernel
theorem dX8_findNeighbours_81 : decode cX8_findNeighbours 81 = .ok (.iload_n 3, 1) := by decide +kernel
theorem dX8_findNeighbours_82 : decode cX8_findNeighbours 82 = .ok (.iload 5, 2) := by decide +kernel
theorem dX8_findNeighbours_84 : decode cX8_findNeighbours 84 = .ok (.invokevirtual 82, 3) := by decide +kernel
theorem dX8_findNeighbours_87 : decode cX8_findNeighbours 87 = .ok (.istore 6, 2) := by decide +kernel
theorem dX8_findNeighbours_89 : decode cX8_findNeighbours 89 = .ok (.iload 6, 2) := by decide +kernel
theorem dX8_findNeighbours_91 : decode cX8_findNeighbours 91 = .ok (.ifCond .le 103, 3) := by decide +kernel
theorem dX8_findNeighbours_94 : decode cX8_findNeighbours 94 = .ok (.aload_n 0, 1) := by decide +kernel
theorem dX8_findNeighbours_95 : decode cX8_findNeighbours 95 = .ok (.iload 6, 2) := by decide +kernel
theorem dX8_findNeighbours_97 : decode cX8_findNeighbours 97 = .ok (.invokevirtual 86, 3) := by decide +kernel
theorem dX8_findNeighbours_100 : decode cX8_findNeighbours 100 = .ok (.bipush (-6), 2) := by decide +kernel
theorem dX8_findNeighbours_102 : decode cX8_findNeighbours 102 = .ok (.if_icmp .ne 92, 3) := by decide +kernel
theorem dX8_findNeighbours_105 : decode cX8_findNeighbours 105 = .ok (.aload_n 0, 1) := by decide +kernel
theorem dX8_findNeighbours_106 : decode cX8_findNeighbours 106 = .ok (.iload_n 1, 1) := by decide +kernel
theorem dX8_findNeighbours_107 : decode cX8_findNeighbours 107 = .ok (.iload_n 3, 1) := by decide +kernel
theorem dX8_findNeighbours_108 : decode cX8_findNeighbours 108 = .ok (.aload_n 0, 1) := by decide +kernel
theorem dX8_findNeighbours_109 : decode cX8_findNeighbours 109 = .ok (.getfield 35, 3) := by decide +kernel
theorem dX8_findNeighbours_112 : decode cX8_findNeighbours 112 = .ok (.iload_n 3, 1) := by decide +kernel
theorem dX8_findNeighbours_113 : decode cX8_findNeighbours 113 = .ok (.iaload, 1) := by decide +kernel
theorem dX8_findNeighbours_114 : decode cX8_findNeighbours 114 = .ok (.invokevirtual 92, 3) := by decide +kernel
theorem dX8_findNeighbours_117 : decode cX8_findNeighbours 117 = .ok (.istore 7, 2) := by decide +kernel
theorem dX8_findNeighbours_119 : decode cX8_findNeighbours 119 = .ok (.aload_n 0, 1) := by decide +kernel
theorem dX8_findNeighbours_120 : decode cX8_findNeighbours 120 = .ok (.iload_n 1, 1) := by decide +kernel
theorem dX8_findNeighbours_121 : decode cX8_findNeighbours 121 = .ok (.iload 4, 2) := by decide +kernel
theorem dX8_findNeighbours_123 : decode cX8_findNeighbours 123 = .ok (.aload_n 0, 1) := by decide +kernel
theorem dX8_findNeighbours_124 : decode cX8_findNeighbours 124 = .ok (.getfield 35, 3) := by decide +kernel
theorem dX8_findNeighbours_127 : decode cX8_findNeighbours 127 = .ok (.iload 4, 2) := by decide +kernel
theorem dX8_findNeighbours_129 : decode cX8_findNeighbours 129 = .ok (.iaload, 1) := by decide +kernel
theorem dX8_findNeighbours_130 : decode cX8_findNeighbours 130 = .ok (.invokevirtual 92, 3) := by decide +kernel
theorem dX8_findNeighbours_133 : decode cX8_findNeighbours 133 = .ok (.istore 8, 2) := by decide +kernel
theorem dX8_findNeighbours_135 : decode cX8_findNeighbours 135 = .ok (.aload_n 0, 1) := by decide +kernel
theorem dX8_findNeighbours_136 : decode cX8_findNeighbours 136 = .ok (.getfield 44, 3) := by decide +kernel
theorem dX8_findNeighbours_139 : decode cX8_findNeighbours 139 = .ok (.aload_n 0, 1) := by decide +kernel
theorem dX8_findNeighbours_140 : decode cX8_findNeighbours 140 = .ok (.getfield 126, 3) := by decide +kernel
theorem dX8_findNeighbours_143 : decode cX8_findNeighbours 143 = .ok (.iload 6, 2) := by decide +kernel
theorem dX8_findNeighbours_145 : decode cX8_findNeighbours 145 = .ok (.iastore, 1) := by decide +kernel
theorem dX8_findNeighbours_146 : decode cX8_findNeighbours 146 = .ok (.aload_n 0, 1) := by decide +kernel
theorem dX8_findNeighbours_147 : decode cX8_findNeighbours 147 = .ok (.getfield 47, 3) := by decide +kernel
theorem dX8_findNeighbours_150 : decode cX8_findNeighbours 150 = .ok (.aload_n 0, 1) := by decide +kernel
theorem dX8_findNeighbours_151 : decode cX8_findNeighbours 151 = .ok (.getfield 126, 3) := by decide +kernel
theorem dX8_findNeighbours_154 : decode cX8_findNeighbours 154 = .ok (.aload_n 0, 1) := by decide +kernel
theorem dX8_findNeighbours_155 : decode cX8_findNeighbours 155 = .ok (.iload_n 1, 1) := by decide +kernel
theorem dX8_findNeighbours_156 : decode cX8_findNeighbours 156 = .ok (.iconst 1, 1) := by decide +kernel
theorem dX8_findNeighbours_157 : decode cX8_findNeighbours 157 = .ok (.invokevirtual 72, 3) := by decide +kernel
theorem dX8_findNeighbours_160 : decode cX8_findNeighbours 160 = .ok (.iastore, 1) := by decide +kernel
theorem dX8_findNeighbours_161 : decode cX8_findNeighbours 161 = .ok (.aload_n 0, 1) := by decide +kernel
theorem dX8_findNeighbours_162 : decode cX8_findNeighbours 162 = .ok (.getfield 50, 3) := by decide +kernel
theorem dX8_findNeighbours_165 : decode cX8_findNeighbours 165 = .ok (.aload_n 0, 1) := by decide +kernel
theorem dX8_findNeighbours_166 : decode cX8_findNeighbours 166 = .ok (.getfield 126, 3) := by decide +kernel
theorem dX8_findNeighbours_169 : decode cX8_findNeighbours 169 = .ok (.iload 7, 2) := by decide +kernel
theorem dX8_findNeighbours_171 : decode cX8_findNeighbours 171 = .ok (.iload 8, 2) := by decide +kernel
theorem dX8_findNeighbours_173 : decode cX8_findNeighbours 173 = .ok (.if_icmp .ge 8, 3) := by decide +kernel
theorem dX8_findNeighbours_176 : decode cX8_findNeighbours 176 = .ok (.iload 7, 2) := by decide +kernel
theorem dX8_findNeighbours_178 : decode cX8_findNeighbours 178 = .ok (.goto 5, 3) := by decide +kernel
theorem dX8_findNeighbours_181 : decode cX8_findNeighbours 181 = .ok (.iload 8, 2) := by decide +kernel
theorem dX8_findNeighbours_183 : decode cX8_findNeighbours 183 = .ok (.iastore, 1) := by decide +kernel
theorem dX8_findNeighbours_184 : decode cX8_findNeighbours 184 = .ok (.aload_n 0, 1) := by decide +kernel
theorem dX8_findNeighbours_185 : decode cX8_findNeighbours 185 = .ok (.dup, 1) := by decide +kernel
theorem dX8_findNeighbours_186 : decode cX8_findNeighbours 186 = .ok (.getfield 126, 3) := by decide +kernel
theorem dX8_findNeighbours_189 : decode cX8_findNeighbours 189 = .ok (.iconst 1, 1) := by decide +kernel
theorem dX8_findNeighbours_190 : decode cX8_findNeighbours 190 = .ok (.iadd, 1) := by decide +kernel
theorem dX8_findNeighbours_191 : decode cX8_findNeighbours 191 = .ok (.putfield 126, 3) := by decide +kernel
theorem dX8_findNeighbours_194 : decode cX8_findNeighbours 194 = .ok (.iload_n 3, 1) := by decide +kernel
theorem dX8_findNeighbours_195 : decode cX8_findNeighbours 195 = .ok (.aload_n 0, 1) := by decide +kernel
theorem dX8_findNeighbours_196 : decode cX8_findNeighbours 196 = .ok (.getfield 35, 3) := by decide +kernel
theorem dX8_findNeighbours_199 : decode cX8_findNeighbours 199 = .ok (.iload_n 3, 1) := by decide +kernel
theorem dX8_findNeighbours_200 : decode cX8_findNeighbours 200 = .ok (.iaload, 1) := by decide +kernel
theorem dX8_findNeighbours_201 : decode cX8_findNeighbours 201 = .ok (.iadd, 1) := by decide +kernel
theorem dX8_findNeighbours_202 : decode cX8_findNeighbours 202 = .ok (.istore_n 3, 1) := by decide +kernel
theorem dX8_findNeighbours_203 : decode cX8_findNeighbours 203 = .ok (.goto (-172), 3) := by decide +kernel
theorem dX8_findNeighbours_206 : decode cX8_findNeighbours 206 = .ok (.iinc 1 1, 3) := by decide +kernel
theorem dX8_findNeighbours_209 : decode cX8_findNeighbours 209 = .ok (.goto (-202), 3) := by decide +kernel
theorem dX8_findNeighbours_212 : decode cX8_findNeighbours 212 = .ok (.return_, 1) := by decide +kernel
theorem dX8_standsSo_0 : decode cX8_standsSo 0 = .ok (.iconst 0, 1) := by decide +kernel
theorem dX8_standsSo_1 : decode cX8_standsSo 1 = .ok (.istore_n 2, 1) := by decide +kernel
theorem dX8_standsSo_2 : decode cX8_standsSo 2 = .ok (.iconst 0, 1) := by decide +kernel
theorem dX8_standsSo_3 : decode cX8_standsSo 3 = .ok (.istore_n 3, 1) := by decide +kernel
theorem dX8_standsSo_4 : decode cX8_standsSo 4 = .ok (.iload_n 3, 1) := by decide +kernel
theorem dX8_standsSo_5 : decode cX8_standsSo 5 = .ok (.aload_n 0, 1) := by decide +kernel
theorem dX8_standsSo_6 : decode cX8_standsSo 6 = .ok (.getfield 126, 3) := by decide +kernel
theorem dX8_standsSo_9 : decode cX8_standsSo 9 = .ok (.if_icmp .ge 32, 3) := by decide +kernel
theorem dX8_standsSo_12 : decode cX8_standsSo 12 = .ok (.iload_n 2, 1) := by decide +kernel
theorem dX8_standsSo_13 : decode cX8_standsSo 13 = .ok (.aload_n 0, 1) := by decide +kernel
theorem dX8_standsSo_14 : decode cX8_standsSo 14 = .ok (.getfield 44, 3) := by decide +kernel
theorem dX8_standsSo_17 : decode cX8_standsSo 17 = .ok (.iload_n 3, 1) := by decide +kernel
theorem dX8_standsSo_18 : decode cX8_standsSo 18 = .ok (.iaload, 1) := by decide +kernel
theorem dX8_standsSo_19 : decode cX8_standsSo 19 = .ok (.iload_n 1, 1) := by decide +kernel
theorem dX8_standsSo_20 : decode cX8_standsSo 20 = .ok (.if_icmp .ne 12, 3) := by decide +kernel
theorem dX8_standsSo_23 : decode cX8_standsSo 23 = .ok (.aload_n 0, 1) := by decide +kernel
theorem dX8_standsSo_24 : decode cX8_standsSo 24 = .ok (.getfield 47, 3) := by decide +kernel
theorem dX8_standsSo_27 : decode cX8_standsSo 27 = .ok (.iload_n 3, 1) := by decide +kernel
theorem dX8_standsSo_28 : decode cX8_standsSo 28 = .ok (.iaload, 1) := by decide +kernel
theorem dX8_standsSo_29 : decode cX8_standsSo 29 = .ok (.goto 4, 3) := by decide +kernel
theorem dX8_standsSo_32 : decode cX8_standsSo 32 = .ok (.iconst 0, 1) := by decide +kernel
theorem dX8_standsSo_33 : decode cX8_standsSo 33 = .ok (.iadd, 1) := by decide +kernel
theorem dX8_standsSo_34 : decode cX8_standsSo 34 = .ok (.istore_n 2, 1) := by decide +kernel
theorem dX8_standsSo_35 : decode cX8_standsSo 35 = .ok (.iinc 3 1, 3) := by decide +kernel
theorem dX8_standsSo_38 : decode cX8_standsSo 38 = .ok (.goto (-34), 3) := by decide +kernel
theorem dX8_standsSo_41 : decode cX8_standsSo 41 = .ok (.iload_n 2, 1) := by decide +kernel
theorem dX8_standsSo_42 : decode cX8_standsSo 42 = .ok (.ireturn, 1) := by decide +kernel
set_option maxRecDepth 20000 in
theorem ggX8_growsAt_X8_findNeighbours : GoodIn wsX8_growsAt wsX8_findNeighbours := goodIn_r _ [7, 1, 8, 9, 2, 10, 11, 12, 13, 14, 6, 15, 16, 17, 18, 19, 20, 21, 22, 23, 24, 25, 26, 27, 28, 29, 30, 31, 32, 33, 34, 35, 36, 37, 38, 39, 40, 41, 42, 43, 44, 45, 50, 51, 52, 53, 54, 55, 56, 57, 58, 59, 60, 61, 62, 63, 64, 65, 66, 67] (by decide +kernel) (by decide +kernel)
set_option maxRecDepth 20000 in
theorem gX8_growsAt_X8_findNeighbours : GoodIn wsX8_growsAt (wsV RX8 129 RX8 yX8_findNeighbours wsX8_findNeighbours) := goodIn_app (goodIn_of _ (by decide +kernel)) ggX8_growsAt_X8_findNeighbours
set_option maxRecDepth 20000 in
theorem ggX8_growsAt_X8_standsSo : GoodIn wsX8_growsAt wsX8_standsSo := goodIn_r _ [49, 1, 2, 10, 50, 51, 52, 53, 54, 55, 56, 57, 58, 59, 60, 61, 62, 63, 64, 65, 66, 67] (by decide +kernel) (by decide +kernel)
set_option maxRecDepth 20000 in
theorem gX8_growsAt_X8_standsSo : GoodIn wsX8_growsAt (wsV RX8 132 RX8 yX8_standsSo wsX8_standsSo) := goodIn_app (goodIn_of _ (by decide +kernel)) ggX8_growsAt_X8_standsSo
theorem dX8_growsAt_0 : decode cX8_growsAt 0 = .ok (.aload_n 0, 1) := by decide +kernel
theorem dX8_growsAt_1 : decode cX8_growsAt 1 = .ok (.invokevirtual 129, 3) := by decide +kernel
theorem dX8_growsAt_4 : decode cX8_growsAt 4 = .ok (.bipush (-6), 2) := by decide +kernel
theorem dX8_growsAt_6 : decode cX8_growsAt 6 = .ok (.istore_n 1, 1) := by decide +kernel
theorem dX8_growsAt_7 : decode cX8_growsAt 7 = .ok (.iconst 0, 1) := by decide +kernel
theorem dX8_growsAt_8 : decode cX8_growsAt 8 = .ok (.istore_n 2, 1) := by decide +kernel
theorem dX8_growsAt_9 : decode cX8_growsAt 9 = .ok (.iconst 0, 1) := by decide +kernel
theorem dX8_growsAt_10 : decode cX8_growsAt 10 = .ok (.istore_n 3, 1) := by decide +kernel
theorem dX8_growsAt_11 : decode cX8_growsAt 11 = .ok (.iload_n 3, 1) := by decide +kernel
theorem dX8_growsAt_12 : decode cX8_growsAt 12 = .ok (.aload_n 0, 1) := by decide +kernel
theorem dX8_growsAt_13 : decode cX8_growsAt 13 = .ok (.getfield 126, 3) := by decide +kernel
theorem dX8_growsAt_16 : decode cX8_growsAt 16 = .ok (.if_icmp .ge 78, 3) := by decide +kernel
theorem dX8_growsAt_19 : decode cX8_growsAt 19 = .ok (.aload_n 0, 1) := by decide +kernel
theorem dX8_growsAt_20 : decode cX8_growsAt 20 = .ok (.aload_n 0, 1) := by decide +kernel
theorem dX8_growsAt_21 : decode cX8_growsAt 21 = .ok (.getfield 44, 3) := by decide +kernel
theorem dX8_growsAt_24 : decode cX8_growsAt 24 = .ok (.iload_n 3, 1) := by decide +kernel
theorem dX8_growsAt_25 : decode cX8_growsAt 25 = .ok (.iaload, 1) := by decide +kernel
theorem dX8_growsAt_26 : decode cX8_growsAt 26 = .ok (.invokevirtual 132, 3) := by decide +kernel
theorem dX8_growsAt_29 : decode cX8_growsAt 29 = .ok (.istore 4, 2) := by decide +kernel
theorem dX8_growsAt_31 : decode cX8_growsAt 31 = .ok (.iload 4, 2) := by decide +kernel
theorem dX8_growsAt_33 : decode cX8_growsAt 33 = .ok (.iload_n 2, 1) := by decide +kernel
theorem dX8_growsAt_34 : decode cX8_growsAt 34 = .ok (.if_icmp .gt 24, 3) := by decide +kernel
theorem dX8_growsAt_37 : decode cX8_growsAt 37 = .ok (.iload 4, 2) := by decide +kernel
theorem dX8_growsAt_39 : decode cX8_growsAt 39 = .ok (.iload_n 2, 1) := by decide +kernel
theorem dX8_growsAt_40 : decode cX8_growsAt 40 = .ok (.if_icmp .ne 22, 3) := by decide +kernel
theorem dX8_growsAt_43 : decode cX8_growsAt 43 = .ok (.aload_n 0, 1) := by decide +kernel
theorem dX8_growsAt_44 : decode cX8_growsAt 44 = .ok (.getfield 44, 3) := by decide +kernel
theorem dX8_growsAt_47 : decode cX8_growsAt 47 = .ok (.iload_n 3, 1) := by decide +kernel
theorem dX8_growsAt_48 : decode cX8_growsAt 48 = .ok (.iaload, 1) := by decide +kernel
theorem dX8_growsAt_49 : decode cX8_growsAt 49 = .ok (.aload_n 0, 1) := by decide +kernel
theorem dX8_growsAt_50 : decode cX8_growsAt 50 = .ok (.getfield 44, 3) := by decide +kernel
theorem dX8_growsAt_53 : decode cX8_growsAt 53 = .ok (.iload_n 1, 1) := by decide +kernel
theorem dX8_growsAt_54 : decode cX8_growsAt 54 = .ok (.iaload, 1) := by decide +kernel
theorem dX8_growsAt_55 : decode cX8_growsAt 55 = .ok (.if_icmp .ge 7, 3) := by decide +kernel
theorem dX8_growsAt_58 : decode cX8_growsAt 58 = .ok (.iconst 1, 1) := by decide +kernel
theorem dX8_growsAt_59 : decode cX8_growsAt 59 = .ok (.goto 4, 3) := by decide +kernel
theorem dX8_growsAt_62 : decode cX8_growsAt 62 = .ok (.iconst 0, 1) := by decide +kernel
theorem dX8_growsAt_63 : decode cX8_growsAt 63 = .ok (.istore 5, 2) := by decide +kernel
theorem dX8_growsAt_65 : decode cX8_growsAt 65 = .ok (.iload 5, 2) := by decide +kernel
theorem dX8_growsAt_67 : decode cX8_growsAt 67 = .ok (.ifCond .eq 7, 3) := by decide +kernel
theorem dX8_growsAt_70 : decode cX8_growsAt 70 = .ok (.iload_n 3, 1) := by decide +kernel
theorem dX8_growsAt_71 : decode cX8_growsAt 71 = .ok (.goto 4, 3) := by decide +kernel
theorem dX8_growsAt_74 : decode cX8_growsAt 74 = .ok (.iload_n 1, 1) := by decide +kernel
theorem dX8_growsAt_75 : decode cX8_growsAt 75 = .ok (.istore_n 1, 1) := by decide +kernel
theorem dX8_growsAt_76 : decode cX8_growsAt 76 = .ok (.iload 5, 2) := by decide +kernel
theorem dX8_growsAt_78 : decode cX8_growsAt 78 = .ok (.ifCond .eq 8, 3) := by decide +kernel
theorem dX8_growsAt_81 : decode cX8_growsAt 81 = .ok (.iload 4, 2) := by decide +kernel
theorem dX8_growsAt_83 : decode cX8_growsAt 83 = .ok (.goto 4, 3) := by decide +kernel
theorem dX8_growsAt_86 : decode cX8_growsAt 86 = .ok (.iload_n 2, 1) := by decide +kernel
theorem dX8_growsAt_87 : decode cX8_growsAt 87 = .ok (.istore_n 2, 1) := by decide +kernel
theorem dX8_growsAt_88 : decode cX8_growsAt 88 = .ok (.iinc 3 1, 3) := by decide +kernel
theorem dX8_growsAt_91 : decode cX8_growsAt 91 = .ok (.goto (-80), 3) := by decide +kernel
theorem dX8_growsAt_94 : decode cX8_growsAt 94 = .ok (.iload_n 1, 1) := by decide +kernel
theorem dX8_growsAt_95 : decode cX8_growsAt 95 = .ok (.ireturn, 1) := by decide +kernel
set_option maxRecDepth 20000 in
theorem ggX8_padText_X8_within : GoodIn wsX8_padText wsX8_within := goodIn_r _ [6] (by decide +kernel) (by decide +kernel)
set_option maxRecDepth 20000 in
theorem gX8_padText_X8_within : GoodIn wsX8_padText (va_wsS RX8 64 yX8_within wsX8_within) := goodIn_app (goodIn_of _ (by decide +kernel)) ggX8_padText_X8_within
theorem dX8_padText_0 : decode cX8_padText 0 = .ok (.iconst 0, 1) := by decide +kernel
theorem dX8_padText_1 : decode cX8_padText 1 = .ok (.istore_n 2, 1) := by decide +kernel
theorem dX8_padText_2 : decode cX8_padText 2 = .ok (.aload_n 0, 1) := by decide +kernel
theorem dX8_padText_3 : decode cX8_padText 3 = .ok (.getfield 135, 3) := by decide +kernel
theorem dX8_padText_6 : decode cX8_padText 6 = .ok (.iconst 1, 1) := by decide +kernel
theorem dX8_padText_7 : decode cX8_padText 7 = .ok (.iload_n 1, 1) := by decide +kernel
theorem dX8_padText_8 : decode cX8_padText 8 = .ok (.invokestatic 64, 3) := by decide +kernel
theorem dX8_padText_11 : decode cX8_padText 11 = .ok (.istore_n 3, 1) := by decide +kernel
theorem dX8_padText_12 : decode cX8_padText 12 = .ok (.iconst 0, 1) := by decide +kernel
theorem dX8_padText_13 : decode cX8_padText 13 = .ok (.istore 4, 2) := by decide +kernel
theorem dX8_padText_15 : decode cX8_padText 15 = .ok (.iload 4, 2) := by decide +kernel
theorem dX8_padText_17 : decode cX8_padText 17 = .ok (.aload_n 0, 1) := by decide +kernel
theorem dX8_padText_18 : decode cX8_padText 18 = .ok (.getfield 135, 3) := by decide +kernel
theorem dX8_padText_21 : decode cX8_padText 21 = .ok (.if_icmp .ge 64, 3) := by decide +kernel
theorem dX8_padText_24 : decode cX8_padText 24 = .ok (.iload_n 3, 1) := by decide +kernel
theorem dX8_padText_25 : decode cX8_padText 25 = .ok (.ifCond .eq 24, 3) := by decide +kernel
theorem dX8_padText_28 : decode cX8_padText 28 = .ok (.aload_n 0, 1) := by decide +kernel
theorem dX8_padText_29 : decode cX8_padText 29 = .ok (.getfield 25, 3) := by decide +kernel
theorem dX8_padText_32 : decode cX8_padText 32 = .ok (.iload 4, 2) := by decide +kernel
theorem dX8_padText_34 : decode cX8_padText 34 = .ok (.iaload, 1) := by decide +kernel
theorem dX8_padText_35 : decode cX8_padText 35 = .ok (.bipush 97, 2) := by decide +kernel
theorem dX8_padText_37 : decode cX8_padText 37 = .ok (.bipush 102, 2) := by decide +kernel
theorem dX8_padText_39 : decode cX8_padText 39 = .ok (.invokestatic 64, 3) := by decide +kernel
theorem dX8_padText_42 : decode cX8_padText 42 = .ok (.ifCond .eq 7, 3) := by decide +kernel
theorem dX8_padText_45 : decode cX8_padText 45 = .ok (.iconst 1, 1) := by decide +kernel
theorem dX8_padText_46 : decode cX8_padText 46 = .ok (.goto 4, 3) := by decide +kernel
theorem dX8_padText_49 : decode cX8_padText 49 = .ok (.iconst 0, 1) := by decide +kernel
theorem dX8_padText_50 : decode cX8_padText 50 = .ok (.istore_n 3, 1) := by decide +kernel
theorem dX8_padText_51 : decode cX8_padText 51 = .ok (.iload 4, 2) := by decide +kernel
theorem dX8_padText_53 : decode cX8_padText 53 = .ok (.iconst 4, 1) := by decide +kernel
theorem dX8_padText_54 : decode cX8_padText 54 = .ok (.if_icmp .ge 23, 3) := by decide +kernel
theorem dX8_padText_57 : decode cX8_padText 57 = .ok (.bipush 7, 2) := by decide +kernel
theorem dX8_padText_59 : decode cX8_padText 59 = .ok (.iload_n 2, 1) := by decide +kernel
theorem dX8_padText_60 : decode cX8_padText 60 = .ok (.imul, 1) := by decide +kernel
theorem dX8_padText_61 : decode cX8_padText 61 = .ok (.aload_n 0, 1) := by decide +kernel
theorem dX8_padText_62 : decode cX8_padText 62 = .ok (.getfield 25, 3) := by decide +kernel
theorem dX8_padText_65 : decode cX8_padText 65 = .ok (.iload 4, 2) := by decide +kernel
theorem dX8_padText_67 : decode cX8_padText 67 = .ok (.iaload, 1) := by decide +kernel
theorem dX8_padText_68 : decode cX8_padText 68 = .ok (.iadd, 1) := by decide +kernel
theorem dX8_padText_69 : decode cX8_padText 69 = .ok (.bipush 97, 2) := by decide +kernel
theorem dX8_padText_71 : decode cX8_padText 71 = .ok (.isub, 1) := by decide +kernel
theorem dX8_padText_72 : decode cX8_padText 72 = .ok (.iconst 1, 1) := by decide +kernel
theorem dX8_padText_73 : decode cX8_padText 73 = .ok (.iadd, 1) := by decide +kernel
theorem dX8_padText_74 : decode cX8_padText 74 = .ok (.goto 4, 3) := by decide +kernel
theorem dX8_padText_77 : decode cX8_padText 77 = .ok (.iload_n 2, 1) := by decide +kernel
theorem dX8_padText_78 : decode cX8_padText 78 = .ok (.istore_n 2, 1) := by decide +kernel
theorem dX8_padText_79 : decode cX8_padText 79 = .ok (.iinc 4 1, 3) := by decide +kernel
theorem dX8_padText_82 : decode cX8_padText 82 = .ok (.goto (-67), 3) := by decide +kernel
theorem dX8_padText_85 : decode cX8_padText 85 = .ok (.iload_n 3, 1) := by decide +kernel
theorem dX8_padText_86 : decode cX8_padText 86 = .ok (.ifCond .eq 7, 3) := by decide +kernel
theorem dX8_padText_89 : decode cX8_padText 89 = .ok (.iload_n 2, 1) := by decide +kernel
theorem dX8_padText_90 : decode cX8_padText 90 = .ok (.goto 4, 3) := by decide +kernel
theorem dX8_padText_93 : decode cX8_padText 93 = .ok (.iconst 0, 1) := by decide +kernel
theorem dX8_padText_94 : decode cX8_padText 94 = .ok (.ireturn, 1) := by decide +kernel
set_option maxRecDepth 20000 in
theorem ggX8_whyNoPiece_X8_padText : GoodIn wsX8_whyNoPiece wsX8_padText := goodIn_r _ [6, 7, 8, 9, 10, 5, 11, 24, 25, 26, 27, 28, 29, 30, 31, 32, 33, 34, 35, 36, 37, 38, 39, 40, 41] (by decide +kernel) (by decide +kernel)
set_option maxRecDepth 20000 in
theorem gX8_whyNoPiece_X8_padText : GoodIn wsX8_whyNoPiece (wsV RX8 138 RX8 yX8_padText wsX8_padText) := goodIn_app (goodIn_of _ (by decide +kernel)) ggX8_whyNoPiece_X8_padText
set_option maxRecDepth 20000 in
theorem ggX8_whyNoPiece_X8_within : GoodIn wsX8_whyNoPiece wsX8_within := goodIn_r _ [11] (by decide +kernel) (by decide +kernel)
set_option maxRecDepth 20000 in
theorem gX8_whyNoPiece_X8_within : GoodIn wsX8_whyNoPiece (va_wsS RX8 64 yX8_within wsX8_within) := goodIn_app (goodIn_of _ (by decide +kernel)) ggX8_whyNoPiece_X8_within
set_option maxRecDepth 20000 in
theorem ggX8_whyNoPiece_X8_pieceOf : GoodIn wsX8_whyNoPiece wsX8_pieceOf := goodIn_r _ [15, 1, 16, 17, 18, 5, 19, 20, 21, 22, 23, 24, 25, 26, 27, 28, 29, 30, 31, 32, 33, 34, 35, 36, 37, 38, 39, 40, 41] (by decide +kernel) (by decide +kernel)
set_option maxRecDepth 20000 in
theorem gX8_whyNoPiece_X8_pieceOf : GoodIn wsX8_whyNoPiece (wsV RX8 86 RX8 yX8_pieceOf wsX8_pieceOf) := goodIn_app (goodIn_of _ (by decide +kernel)) ggX8_whyNoPiece_X8_pieceOf
theorem dX8_whyNoPiece_0 : decode cX8_whyNoPiece 0 = .ok (.aload_n 0, 1) := by decide +kernel
theorem dX8_whyNoPiece_1 : decode cX8_whyNoPiece 1 = .ok (.iconst 4, 1) := by decide +kernel
theorem dX8_whyNoPiece_2 : decode cX8_whyNoPiece 2 = .ok (.invokevirtual 138, 3) := by decide +kernel
theorem dX8_whyNoPiece_5 : decode cX8_whyNoPiece 5 = .ok (.istore_n 2, 1) := by decide +kernel
theorem dX8_whyNoPiece_6 : decode cX8_whyNoPiece 6 = .ok (.iload_n 2, 1) := by decide +kernel
theorem dX8_whyNoPiece_7 : decode cX8_whyNoPiece 7 = .ok (.ifCond .ne 6, 3) := by decide +kernel
theorem dX8_whyNoPiece_10 : decode cX8_whyNoPiece 10 = .ok (.bipush (-3), 2) := by decide +kernel
theorem dX8_whyNoPiece_12 : decode cX8_whyNoPiece 12 = .ok (.ireturn, 1) := by decide +kernel
theorem dX8_whyNoPiece_13 : decode cX8_whyNoPiece 13 = .ok (.iload_n 1, 1) := by decide +kernel
theorem dX8_whyNoPiece_14 : decode cX8_whyNoPiece 14 = .ok (.iconst 1, 1) := by decide +kernel
theorem dX8_whyNoPiece_15 : decode cX8_whyNoPiece 15 = .ok (.bipush 9, 2) := by decide +kernel
theorem dX8_whyNoPiece_17 : decode cX8_whyNoPiece 17 = .ok (.invokestatic 64, 3) := by decide +kernel
theorem dX8_whyNoPiece_20 : decode cX8_whyNoPiece 20 = .ok (.ifCond .ne 6, 3) := by decide +kernel
theorem dX8_whyNoPiece_23 : decode cX8_whyNoPiece 23 = .ok (.bipush (-2), 2) := by decide +kernel
theorem dX8_whyNoPiece_25 : decode cX8_whyNoPiece 25 = .ok (.ireturn, 1) := by decide +kernel
theorem dX8_whyNoPiece_26 : decode cX8_whyNoPiece 26 = .ok (.aload_n 0, 1) := by decide +kernel
theorem dX8_whyNoPiece_27 : decode cX8_whyNoPiece 27 = .ok (.getfield 7, 3) := by decide +kernel
theorem dX8_whyNoPiece_30 : decode cX8_whyNoPiece 30 = .ok (.iconst 0, 1) := by decide +kernel
theorem dX8_whyNoPiece_31 : decode cX8_whyNoPiece 31 = .ok (.iaload, 1) := by decide +kernel
theorem dX8_whyNoPiece_32 : decode cX8_whyNoPiece 32 = .ok (.bipush 16, 2) := by decide +kernel
theorem dX8_whyNoPiece_34 : decode cX8_whyNoPiece 34 = .ok (.if_icmp .ne 8, 3) := by decide +kernel
theorem dX8_whyNoPiece_37 : decode cX8_whyNoPiece 37 = .ok (.bipush (-4), 2) := by decide +kernel
theorem dX8_whyNoPiece_39 : decode cX8_whyNoPiece 39 = .ok (.goto 19, 3) := by decide +kernel
theorem dX8_whyNoPiece_42 : decode cX8_whyNoPiece 42 = .ok (.aload_n 0, 1) := by decide +kernel
theorem dX8_whyNoPiece_43 : decode cX8_whyNoPiece 43 = .ok (.iload_n 2, 1) := by decide +kernel
theorem dX8_whyNoPiece_44 : decode cX8_whyNoPiece 44 = .ok (.invokevirtual 86, 3) := by decide +kernel
theorem dX8_whyNoPiece_47 : decode cX8_whyNoPiece 47 = .ok (.bipush (-6), 2) := by decide +kernel
theorem dX8_whyNoPiece_49 : decode cX8_whyNoPiece 49 = .ok (.if_icmp .eq 8, 3) := by decide +kernel
theorem dX8_whyNoPiece_52 : decode cX8_whyNoPiece 52 = .ok (.bipush (-5), 2) := by decide +kernel
theorem dX8_whyNoPiece_54 : decode cX8_whyNoPiece 54 = .ok (.goto 4, 3) := by decide +kernel
theorem dX8_whyNoPiece_57 : decode cX8_whyNoPiece 57 = .ok (.iconst 0, 1) := by decide +kernel
theorem dX8_whyNoPiece_58 : decode cX8_whyNoPiece 58 = .ok (.ireturn, 1) := by decide +kernel
set_option maxRecDepth 20000 in
theorem ggX8_piece_X8_whyNoPiece : GoodIn wsX8_piece wsX8_whyNoPiece := goodIn_r _ [6, 7, 8, 9, 10, 5, 11, 1, 12, 13, 14, 15, 16, 17, 18, 19, 20, 21, 22, 23, 24, 25, 26, 27, 47, 48, 49, 50, 51, 52, 53, 54, 55, 56, 57, 58, 59, 60, 61, 62, 63, 64] (by decide +kernel) (by decide +kernel)
set_option maxRecDepth 20000 in
theorem gX8_piece_X8_whyNoPiece : GoodIn wsX8_piece (wsV RX8 141 RX8 yX8_whyNoPiece wsX8_whyNoPiece) := goodIn_app (goodIn_of _ (by decide +kernel)) ggX8_piece_X8_whyNoPiece
set_option maxRecDepth 20000 in
theorem ggX8_piece_X8_record : GoodIn wsX8_piece wsX8_record := goodIn_r _ [31, 32, 33, 7, 34, 35, 5, 36, 47, 48, 49, 50, 51, 52, 53, 54, 55, 56, 57, 58, 59, 60, 61, 62, 63, 64] (by decide +kernel) (by decide +kernel)
set_option maxRecDepth 20000 in
theorem gX8_piece_X8_record : GoodIn wsX8_piece (wsV RX8 144 RX8 yX8_record wsX8_record) := goodIn_app (goodIn_of _ (by decide +kernel)) ggX8_piece_X8_record
set_option maxRecDepth 20000 in
theorem ggX8_piece_X8_padText : GoodIn wsX8_piece wsX8_padText := goodIn_r _ [11, 1, 12, 13, 14, 5, 15, 47, 48, 49, 50, 51, 52, 53, 54, 55, 56, 57, 58, 59, 60, 61, 62, 63, 64] (by decide +kernel) (by decide +kernel)
set_option maxRecDepth 20000 in
theorem gX8_piece_X8_padText : GoodIn wsX8_piece (wsV RX8 138 RX8 yX8_padText wsX8_padText) := goodIn_app (goodIn_of _ (by decide +kernel)) ggX8_piece_X8_padText
set_option maxRecDepth 20000 in
theorem ggX8_piece_X8_addPiece : GoodIn wsX8_piece wsX8_addPiece := goodIn_r _ [40, 7, 41, 42, 5, 43, 44, 45, 46, 47, 48, 49, 50, 51, 52, 53, 54, 55, 56, 57, 58, 59, 60, 61, 62, 63, 64] (by decide +kernel) (by decide +kernel)
set_option maxRecDepth 20000 in
theorem gX8_piece_X8_addPiece : GoodIn wsX8_piece (wsV RX8 147 RX8 yX8_addPiece wsX8_addPiece) := goodIn_app (goodIn_of _ (by decide +kernel)) ggX8_piece_X8_addPiece
theorem dX8_piece_0 : decode cX8_piece 0 = .ok (.aload_n 0, 1) := by decide +kernel
theorem dX8_piece_1 : decode cX8_piece 1 = .ok (.iload_n 1, 1) := by decide +kernel
theorem dX8_piece_2 : decode cX8_piece 2 = .ok (.invokevirtual 141, 3) := by decide +kernel
theorem dX8_piece_5 : decode cX8_piece 5 = .ok (.istore_n 2, 1) := by decide +kernel
theorem dX8_piece_6 : decode cX8_piece 6 = .ok (.iload_n 2, 1) := by decide +kernel
theorem dX8_piece_7 : decode cX8_piece 7 = .ok (.ifCond .ge 5, 3) := by decide +kernel
theorem dX8_piece_10 : decode cX8_piece 10 = .ok (.iload_n 2, 1) := by decide +kernel
theorem dX8_piece_11 : decode cX8_piece 11 = .ok (.ireturn, 1) := by decide +kernel
theorem dX8_piece_12 : decode cX8_piece 12 = .ok (.aload_n 0, 1) := by decide +kernel
theorem dX8_piece_13 : decode cX8_piece 13 = .ok (.invokevirtual 144, 3) := by decide +kernel
theorem dX8_piece_16 : decode cX8_piece 16 = .ok (.aload_n 0, 1) := by decide +kernel
theorem dX8_piece_17 : decode cX8_piece 17 = .ok (.aload_n 0, 1) := by decide +kernel
theorem dX8_piece_18 : decode cX8_piece 18 = .ok (.iconst 4, 1) := by decide +kernel
theorem dX8_piece_19 : decode cX8_piece 19 = .ok (.invokevirtual 138, 3) := by decide +kernel
theorem dX8_piece_22 : decode cX8_piece 22 = .ok (.iload_n 1, 1) := by decide +kernel
theorem dX8_piece_23 : decode cX8_piece 23 = .ok (.invokevirtual 147, 3) := by decide +kernel
theorem dX8_piece_26 : decode cX8_piece 26 = .ok (.istore_n 3, 1) := by decide +kernel
theorem dX8_piece_27 : decode cX8_piece 27 = .ok (.aload_n 0, 1) := by decide +kernel
theorem dX8_piece_28 : decode cX8_piece 28 = .ok (.iconst 0, 1) := by decide +kernel
theorem dX8_piece_29 : decode cX8_piece 29 = .ok (.putfield 135, 3) := by decide +kernel
theorem dX8_piece_32 : decode cX8_piece 32 = .ok (.iload_n 3, 1) := by decide +kernel
theorem dX8_piece_33 : decode cX8_piece 33 = .ok (.ireturn, 1) := by decide +kernel
set_option maxRecDepth 20000 in
theorem ggX8_weigh_X8_isPiece : GoodIn wsX8_weigh wsX8_isPiece := goodIn_r _ [6, 1, 7, 8, 5, 9, 23, 24, 25, 26, 27, 28, 29, 30, 31, 32, 33, 34, 35, 36, 37, 38, 39, 40] (by decide +kernel) (by decide +kernel)
set_option maxRecDepth 20000 in
theorem gX8_weigh_X8_isPiece : GoodIn wsX8_weigh (wsV RX8 150 RX8 yX8_isPiece wsX8_isPiece) := goodIn_app (goodIn_of _ (by decide +kernel)) ggX8_weigh_X8_isPiece
set_option maxRecDepth 20000 in
theorem ggX8_weigh_X8_within : GoodIn wsX8_weigh wsX8_within := goodIn_r _ [9] (by decide +kernel) (by decide +kernel)
set_option maxRecDepth 20000 in
theorem gX8_weigh_X8_within : GoodIn wsX8_weigh (va_wsS RX8 64 yX8_within wsX8_within) := goodIn_app (goodIn_of _ (by decide +kernel)) ggX8_weigh_X8_within
set_option maxRecDepth 20000 in
theorem ggX8_weigh_X8_record : GoodIn wsX8_weigh wsX8_record := goodIn_r _ [13, 14, 15, 1, 16, 17, 5, 18, 23, 24, 25, 26, 27, 28, 29, 30, 31, 32, 33, 34, 35, 36, 37, 38, 39, 40] (by decide +kernel) (by decide +kernel)
set_option maxRecDepth 20000 in
theorem gX8_weigh_X8_record : GoodIn wsX8_weigh (wsV RX8 144 RX8 yX8_record wsX8_record) := goodIn_app (goodIn_of _ (by decide +kernel)) ggX8_weigh_X8_record
set_option maxRecDepth 20000 in
theorem ggX8_weigh_X8_piecePart : GoodIn wsX8_weigh wsX8_piecePart := goodIn_r _ [22, 1, 23, 24, 25, 26, 27, 28, 29, 30, 31, 32, 33, 34, 35, 36, 37, 38, 39, 40] (by decide +kernel) (by decide +kernel)
set_option maxRecDepth 20000 in
theorem gX8_weigh_X8_piecePart : GoodIn wsX8_weigh (wsV RX8 68 RX8 yX8_piecePart wsX8_piecePart) := goodIn_app (goodIn_of _ (by decide +kernel)) ggX8_weigh_X8_piecePart
theorem dX8_weigh_0 : decode cX8_weigh 0 = .ok (.aload_n 0, 1) := by decide +kernel
theorem dX8_weigh_1 : decode cX8_weigh 1 = .ok (.iload_n 1, 1) := by decide +kernel
theorem dX8_weigh_2 : decode cX8_weigh 2 = .ok (.invokevirtual 150, 3) := by decide +kernel
theorem dX8_weigh_5 : decode cX8_weigh 5 = .ok (.ifCond .eq 13, 3) := by decide +kernel
theorem dX8_weigh_8 : decode cX8_weigh 8 = .ok (.iload_n 2, 1) := by decide +kernel
theorem dX8_weigh_9 : decode cX8_weigh 9 = .ok (.iconst 1, 1) := by decide +kernel
theorem dX8_weigh_10 : decode cX8_weigh 10 = .ok (.bipush 9, 2) := by decide +kernel
theorem dX8_weigh_12 : decode cX8_weigh 12 = .ok (.invokestatic 64, 3) := by decide +kernel
theorem dX8_weigh_15 : decode cX8_weigh 15 = .ok (.ifCond .ne 18, 3) := by decide +kernel
theorem dX8_weigh_18 : decode cX8_weigh 18 = .ok (.aload_n 0, 1) := by decide +kernel
theorem dX8_weigh_19 : decode cX8_weigh 19 = .ok (.iload_n 1, 1) := by decide +kernel
theorem dX8_weigh_20 : decode cX8_weigh 20 = .ok (.invokevirtual 150, 3) := by decide +kernel
theorem dX8_weigh_23 : decode cX8_weigh 23 = .ok (.ifCond .eq 8, 3) := by decide +kernel
theorem dX8_weigh_26 : decode cX8_weigh 26 = .ok (.bipush (-2), 2) := by decide +kernel
theorem dX8_weigh_28 : decode cX8_weigh 28 = .ok (.goto 4, 3) := by decide +kernel
theorem dX8_weigh_31 : decode cX8_weigh 31 = .ok (.iconst (-1), 1) := by decide +kernel
theorem dX8_weigh_32 : decode cX8_weigh 32 = .ok (.ireturn, 1) := by decide +kernel
theorem dX8_weigh_33 : decode cX8_weigh 33 = .ok (.aload_n 0, 1) := by decide +kernel
theorem dX8_weigh_34 : decode cX8_weigh 34 = .ok (.invokevirtual 144, 3) := by decide +kernel
theorem dX8_weigh_37 : decode cX8_weigh 37 = .ok (.aload_n 0, 1) := by decide +kernel
theorem dX8_weigh_38 : decode cX8_weigh 38 = .ok (.iload_n 1, 1) := by decide +kernel
theorem dX8_weigh_39 : decode cX8_weigh 39 = .ok (.iconst 1, 1) := by decide +kernel
theorem dX8_weigh_40 : decode cX8_weigh 40 = .ok (.invokevirtual 68, 3) := by decide +kernel
theorem dX8_weigh_43 : decode cX8_weigh 43 = .ok (.istore_n 3, 1) := by decide +kernel
theorem dX8_weigh_44 : decode cX8_weigh 44 = .ok (.aload_n 0, 1) := by decide +kernel
theorem dX8_weigh_45 : decode cX8_weigh 45 = .ok (.getfield 7, 3) := by decide +kernel
theorem dX8_weigh_48 : decode cX8_weigh 48 = .ok (.iconst 2, 1) := by decide +kernel
theorem dX8_weigh_49 : decode cX8_weigh 49 = .ok (.bipush 6, 2) := by decide +kernel
theorem dX8_weigh_51 : decode cX8_weigh 51 = .ok (.iload_n 1, 1) := by decide +kernel
theorem dX8_weigh_52 : decode cX8_weigh 52 = .ok (.imul, 1) := by decide +kernel
theorem dX8_weigh_53 : decode cX8_weigh 53 = .ok (.iadd, 1) := by decide +kernel
theorem dX8_weigh_54 : decode cX8_weigh 54 = .ok (.iconst 1, 1) := by decide +kernel
theorem dX8_weigh_55 : decode cX8_weigh 55 = .ok (.iadd, 1) := by decide +kernel
theorem dX8_weigh_56 : decode cX8_weigh 56 = .ok (.iload_n 2, 1) := by decide +kernel
theorem dX8_weigh_57 : decode cX8_weigh 57 = .ok (.iastore, 1) := by decide +kernel
theorem dX8_weigh_58 : decode cX8_weigh 58 = .ok (.iload_n 3, 1) := by decide +kernel
theorem dX8_weigh_59 : decode cX8_weigh 59 = .ok (.ireturn, 1) := by decide +kernel
set_option maxRecDepth 20000 in
theorem ggX8_drop_X8_isPiece : GoodIn wsX8_drop wsX8_isPiece := goodIn_r _ [6, 1, 7, 8, 5, 9, 23, 24, 25, 26, 27, 28, 29, 30, 31, 32, 33, 34, 35, 36, 37, 38, 39, 40] (by decide +kernel) (by decide +kernel)
set_option maxRecDepth 20000 in
theorem gX8_drop_X8_isPiece : GoodIn wsX8_drop (wsV RX8 150 RX8 yX8_isPiece wsX8_isPiece) := goodIn_app (goodIn_of _ (by decide +kernel)) ggX8_drop_X8_isPiece
set_option maxRecDepth 20000 in
theorem ggX8_drop_X8_record : GoodIn wsX8_drop wsX8_record := goodIn_r _ [13, 14, 15, 1, 16, 17, 5, 18, 23, 24, 25, 26, 27, 28, 29, 30, 31, 32, 33, 34, 35, 36, 37, 38, 39, 40] (by decide +kernel) (by decide +kernel)
set_option maxRecDepth 20000 in
theorem gX8_drop_X8_record : GoodIn wsX8_drop (wsV RX8 144 RX8 yX8_record wsX8_record) := goodIn_app (goodIn_of _ (by decide +kernel)) ggX8_drop_X8_record
set_option maxRecDepth 20000 in
theorem ggX8_drop_X8_dropPiece : GoodIn wsX8_drop wsX8_dropPiece := goodIn_r _ [22, 1, 23, 24, 25, 26, 27, 28, 29, 30, 31, 32, 33, 34, 35, 36, 37, 38, 39, 40] (by decide +kernel) (by decide +kernel)
set_option maxRecDepth 20000 in
theorem gX8_drop_X8_dropPiece : GoodIn wsX8_drop (wsV RX8 117 RX8 yX8_dropPiece wsX8_dropPiece) := goodIn_app (goodIn_of _ (by decide +kernel)) ggX8_drop_X8_dropPiece
theorem dX8_drop_0 : decode cX8_drop 0 = .ok (.aload_n 0, 1) := by decide +kernel
theorem dX8_drop_1 : decode cX8_drop 1 = .ok (.iload_n 1, 1) := by decide +kernel
theorem dX8_drop_2 : decode cX8_drop 2 = .ok (.invokevirtual 150, 3) := by decide +kernel
theorem dX8_drop_5 : decode cX8_drop 5 = .ok (.ifCond .ne 5, 3) := by decide +kernel
theorem dX8_drop_8 : decode cX8_drop 8 = .ok (.iconst (-1), 1) := by decide +kernel
theorem dX8_drop_9 : decode cX8_drop 9 = .ok (.ireturn, 1) := by decide +kernel
theorem dX8_drop_10 : decode cX8_drop 10 = .ok (.aload_n 0, 1) := by decide +kernel
theorem dX8_drop_11 : decode cX8_drop 11 = .ok (.invokevirtual 144, 3) := by decide +kernel
theorem dX8_drop_14 : decode cX8_drop 14 = .ok (.aload_n 0, 1) := by decide +kernel
theorem dX8_drop_15 : decode cX8_drop 15 = .ok (.iload_n 1, 1) := by decide +kernel
theorem dX8_drop_16 : decode cX8_drop 16 = .ok (.invokevirtual 117, 3) := by decide +kernel
theorem dX8_drop_19 : decode cX8_drop 19 = .ok (.aload_n 0, 1) := by decide +kernel
theorem dX8_drop_20 : decode cX8_drop 20 = .ok (.getfield 7, 3) := by decide +kernel
theorem dX8_drop_23 : decode cX8_drop 23 = .ok (.iconst 0, 1) := by decide +kernel
theorem dX8_drop_24 : decode cX8_drop 24 = .ok (.iaload, 1) := by decide +kernel
theorem dX8_drop_25 : decode cX8_drop 25 = .ok (.ireturn, 1) := by decide +kernel
set_option maxRecDepth 20000 in
theorem ggX8_word_X8_padText : GoodIn wsX8_word wsX8_padText := goodIn_r _ [8, 2, 3, 9, 10, 7, 11, 21, 22, 23, 24, 25, 26, 27, 28, 29, 30, 31, 32, 33, 34, 35, 36, 37, 38] (by decide +kernel) (by decide +kernel)
set_option maxRecDepth 20000 in
theorem gX8_word_X8_padText : GoodIn wsX8_word (wsV RX8 138 RX8 yX8_padText wsX8_padText) := goodIn_app (goodIn_of _ (by decide +kernel)) ggX8_word_X8_padText
set_option maxRecDepth 20000 in
theorem ggX8_word_X8_within : GoodIn wsX8_word wsX8_within := goodIn_r _ [11] (by decide +kernel) (by decide +kernel)
set_option maxRecDepth 20000 in
theorem gX8_word_X8_within : GoodIn wsX8_word (va_wsS RX8 64 yX8_within wsX8_within) := goodIn_app (goodIn_of _ (by decide +kernel)) ggX8_word_X8_within
set_option maxRecDepth 20000 in
theorem ggX8_word_X8_record : GoodIn wsX8_word wsX8_record := goodIn_r _ [15, 16, 17, 1, 18, 19, 7, 20, 21, 22, 23, 24, 25, 26, 27, 28, 29, 30, 31, 32, 33, 34, 35, 36, 37, 38] (by decide +kernel) (by decide +kernel)
set_option maxRecDepth 20000 in
theorem gX8_word_X8_record : GoodIn wsX8_word (wsV RX8 144 RX8 yX8_record wsX8_record) := goodIn_app (goodIn_of _ (by decide +kernel)) ggX8_word_X8_record
theorem dX8_word_0 : decode cX8_word 0 = .ok (.aload_n 0, 1) := by decide +kernel
theorem dX8_word_1 : decode cX8_word 1 = .ok (.bipush 12, 2) := by decide +kernel
theorem dX8_word_3 : decode cX8_word 3 = .ok (.invokevirtual 138, 3) := by decide +kernel
theorem dX8_word_6 : decode cX8_word 6 = .ok (.ifCond .ne 6, 3) := by decide +kernel
theorem dX8_word_9 : decode cX8_word 9 = .ok (.bipush (-3), 2) := by decide +kernel
theorem dX8_word_11 : decode cX8_word 11 = .ok (.ireturn, 1) := by decide +kernel
theorem dX8_word_12 : decode cX8_word 12 = .ok (.iload_n 1, 1) := by decide +kernel
theorem dX8_word_13 : decode cX8_word 13 = .ok (.iconst 1, 1) := by decide +kernel
theorem dX8_word_14 : decode cX8_word 14 = .ok (.bipush 99, 2) := by decide +kernel
theorem dX8_word_16 : decode cX8_word 16 = .ok (.invokestatic 64, 3) := by decide +kernel
theorem dX8_word_19 : decode cX8_word 19 = .ok (.ifCond .ne 6, 3) := by decide +kernel
theorem dX8_word_22 : decode cX8_word 22 = .ok (.bipush (-2), 2) := by decide +kernel
theorem dX8_word_24 : decode cX8_word 24 = .ok (.ireturn, 1) := by decide +kernel
theorem dX8_word_25 : decode cX8_word 25 = .ok (.aload_n 0, 1) := by decide +kernel
theorem dX8_word_26 : decode cX8_word 26 = .ok (.getfield 7, 3) := by decide +kernel
theorem dX8_word_29 : decode cX8_word 29 = .ok (.iconst 1, 1) := by decide +kernel
theorem dX8_word_30 : decode cX8_word 30 = .ok (.iaload, 1) := by decide +kernel
theorem dX8_word_31 : decode cX8_word 31 = .ok (.bipush 8, 2) := by decide +kernel
theorem dX8_word_33 : decode cX8_word 33 = .ok (.if_icmp .ne 6, 3) := by decide +kernel
theorem dX8_word_36 : decode cX8_word 36 = .ok (.bipush (-4), 2) := by decide +kernel
theorem dX8_word_38 : decode cX8_word 38 = .ok (.ireturn, 1) := by decide +kernel
theorem dX8_word_39 : decode cX8_word 39 = .ok (.aload_n 0, 1) := by decide +kernel
theorem dX8_word_40 : decode cX8_word 40 = .ok (.invokevirtual 144, 3) := by decide +kernel
theorem dX8_word_43 : decode cX8_word 43 = .ok (.aload_n 0, 1) := by decide +kernel
theorem dX8_word_44 : decode cX8_word 44 = .ok (.getfield 7, 3) := by decide +kernel
theorem dX8_word_47 : decode cX8_word 47 = .ok (.iconst 1, 1) := by decide +kernel
theorem dX8_word_48 : decode cX8_word 48 = .ok (.iaload, 1) := by decide +kernel
theorem dX8_word_49 : decode cX8_word 49 = .ok (.istore_n 2, 1) := by decide +kernel
theorem dX8_word_50 : decode cX8_word 50 = .ok (.bipush 98, 2) := by decide +kernel
theorem dX8_word_52 : decode cX8_word 52 = .ok (.bipush 14, 2) := by decide +kernel
theorem dX8_word_54 : decode cX8_word 54 = .ok (.iload_n 2, 1) := by decide +kernel
theorem dX8_word_55 : decode cX8_word 55 = .ok (.imul, 1) := by decide +kernel
theorem dX8_word_56 : decode cX8_word 56 = .ok (.iadd, 1) := by decide +kernel
theorem dX8_word_57 : decode cX8_word 57 = .ok (.istore_n 3, 1) := by decide +kernel
theorem dX8_word_58 : decode cX8_word 58 = .ok (.aload_n 0, 1) := by decide +kernel
theorem dX8_word_59 : decode cX8_word 59 = .ok (.getfield 7, 3) := by decide +kernel
theorem dX8_word_62 : decode cX8_word 62 = .ok (.iload_n 3, 1) := by decide +kernel
theorem dX8_word_63 : decode cX8_word 63 = .ok (.iconst 0, 1) := by decide +kernel
end
section
theorem dX8_word_64 : decode cX8_word 64 = .ok (.iadd, 1) := by decide +kernel
theorem dX8_word_65 : decode cX8_word 65 = .ok (.aload_n 0, 1) := by decide +kernel
theorem dX8_word_66 : decode cX8_word 66 = .ok (.getfield 135, 3) := by decide +kernel
theorem dX8_word_69 : decode cX8_word 69 = .ok (.iastore, 1) := by decide +kernel
theorem dX8_word_70 : decode cX8_word 70 = .ok (.aload_n 0, 1) := by decide +kernel
theorem dX8_word_71 : decode cX8_word 71 = .ok (.getfield 7, 3) := by decide +kernel
theorem dX8_word_74 : decode cX8_word 74 = .ok (.iload_n 3, 1) := by decide +kernel
theorem dX8_word_75 : decode cX8_word 75 = .ok (.iconst 1, 1) := by decide +kernel
theorem dX8_word_76 : decode cX8_word 76 = .ok (.iadd, 1) := by decide +kernel
theorem dX8_word_77 : decode cX8_word 77 = .ok (.iload_n 1, 1) := by decide +kernel
theorem dX8_word_78 : decode cX8_word 78 = .ok (.iastore, 1) := by decide +kernel
theorem dX8_word_79 : decode cX8_word 79 = .ok (.iconst 0, 1) := by decide +kernel
theorem dX8_word_80 : decode cX8_word 80 = .ok (.istore 4, 2) := by decide +kernel
theorem dX8_word_82 : decode cX8_word 82 = .ok (.iload 4, 2) := by decide +kernel
theorem dX8_word_84 : decode cX8_word 84 = .ok (.bipush 12, 2) := by decide +kernel
theorem dX8_word_86 : decode cX8_word 86 = .ok (.if_icmp .ge 45, 3) := by decide +kernel
theorem dX8_word_89 : decode cX8_word 89 = .ok (.aload_n 0, 1) := by decide +kernel
theorem dX8_word_90 : decode cX8_word 90 = .ok (.getfield 7, 3) := by decide +kernel
theorem dX8_word_93 : decode cX8_word 93 = .ok (.iload_n 3, 1) := by decide +kernel
theorem dX8_word_94 : decode cX8_word 94 = .ok (.iconst 2, 1) := by decide +kernel
theorem dX8_word_95 : decode cX8_word 95 = .ok (.iadd, 1) := by decide +kernel
theorem dX8_word_96 : decode cX8_word 96 = .ok (.iload 4, 2) := by decide +kernel
theorem dX8_word_98 : decode cX8_word 98 = .ok (.iadd, 1) := by decide +kernel
theorem dX8_word_99 : decode cX8_word 99 = .ok (.iload 4, 2) := by decide +kernel
theorem dX8_word_101 : decode cX8_word 101 = .ok (.aload_n 0, 1) := by decide +kernel
theorem dX8_word_102 : decode cX8_word 102 = .ok (.getfield 135, 3) := by decide +kernel
theorem dX8_word_105 : decode cX8_word 105 = .ok (.if_icmp .ge 18, 3) := by decide +kernel
theorem dX8_word_108 : decode cX8_word 108 = .ok (.aload_n 0, 1) := by decide +kernel
theorem dX8_word_109 : decode cX8_word 109 = .ok (.getfield 25, 3) := by decide +kernel
theorem dX8_word_112 : decode cX8_word 112 = .ok (.iload 4, 2) := by decide +kernel
theorem dX8_word_114 : decode cX8_word 114 = .ok (.iaload, 1) := by decide +kernel
theorem dX8_word_115 : decode cX8_word 115 = .ok (.bipush 97, 2) := by decide +kernel
theorem dX8_word_117 : decode cX8_word 117 = .ok (.isub, 1) := by decide +kernel
theorem dX8_word_118 : decode cX8_word 118 = .ok (.iconst 1, 1) := by decide +kernel
theorem dX8_word_119 : decode cX8_word 119 = .ok (.iadd, 1) := by decide +kernel
theorem dX8_word_120 : decode cX8_word 120 = .ok (.goto 4, 3) := by decide +kernel
theorem dX8_word_123 : decode cX8_word 123 = .ok (.iconst 0, 1) := by decide +kernel
theorem dX8_word_124 : decode cX8_word 124 = .ok (.iastore, 1) := by decide +kernel
theorem dX8_word_125 : decode cX8_word 125 = .ok (.iinc 4 1, 3) := by decide +kernel
theorem dX8_word_128 : decode cX8_word 128 = .ok (.goto (-46), 3) := by decide +kernel
theorem dX8_word_131 : decode cX8_word 131 = .ok (.aload_n 0, 1) := by decide +kernel
theorem dX8_word_132 : decode cX8_word 132 = .ok (.getfield 7, 3) := by decide +kernel
theorem dX8_word_135 : decode cX8_word 135 = .ok (.iconst 1, 1) := by decide +kernel
theorem dX8_word_136 : decode cX8_word 136 = .ok (.dup2, 1) := by decide +kernel
theorem dX8_word_137 : decode cX8_word 137 = .ok (.iaload, 1) := by decide +kernel
theorem dX8_word_138 : decode cX8_word 138 = .ok (.iconst 1, 1) := by decide +kernel
theorem dX8_word_139 : decode cX8_word 139 = .ok (.iadd, 1) := by decide +kernel
theorem dX8_word_140 : decode cX8_word 140 = .ok (.iastore, 1) := by decide +kernel
theorem dX8_word_141 : decode cX8_word 141 = .ok (.aload_n 0, 1) := by decide +kernel
theorem dX8_word_142 : decode cX8_word 142 = .ok (.iconst 0, 1) := by decide +kernel
theorem dX8_word_143 : decode cX8_word 143 = .ok (.putfield 135, 3) := by decide +kernel
theorem dX8_word_146 : decode cX8_word 146 = .ok (.iload_n 2, 1) := by decide +kernel
theorem dX8_word_147 : decode cX8_word 147 = .ok (.ireturn, 1) := by decide +kernel
set_option maxRecDepth 20000 in
theorem ggX8_recount_X8_isWord : GoodIn wsX8_recount wsX8_isWord := goodIn_r _ [6, 1, 7, 8, 5, 9, 23, 24, 25, 26, 27, 28, 29, 30, 31, 32, 33, 34, 35, 36, 37, 38, 39, 40] (by decide +kernel) (by decide +kernel)
set_option maxRecDepth 20000 in
theorem gX8_recount_X8_isWord : GoodIn wsX8_recount (wsV RX8 154 RX8 yX8_isWord wsX8_isWord) := goodIn_app (goodIn_of _ (by decide +kernel)) ggX8_recount_X8_isWord
set_option maxRecDepth 20000 in
theorem ggX8_recount_X8_within : GoodIn wsX8_recount wsX8_within := goodIn_r _ [9] (by decide +kernel) (by decide +kernel)
set_option maxRecDepth 20000 in
theorem gX8_recount_X8_within : GoodIn wsX8_recount (va_wsS RX8 64 yX8_within wsX8_within) := goodIn_app (goodIn_of _ (by decide +kernel)) ggX8_recount_X8_within
set_option maxRecDepth 20000 in
theorem ggX8_recount_X8_record : GoodIn wsX8_recount wsX8_record := goodIn_r _ [13, 14, 15, 1, 16, 17, 5, 18, 23, 24, 25, 26, 27, 28, 29, 30, 31, 32, 33, 34, 35, 36, 37, 38, 39, 40] (by decide +kernel) (by decide +kernel)
set_option maxRecDepth 20000 in
theorem gX8_recount_X8_record : GoodIn wsX8_recount (wsV RX8 144 RX8 yX8_record wsX8_record) := goodIn_app (goodIn_of _ (by decide +kernel)) ggX8_recount_X8_record
set_option maxRecDepth 20000 in
theorem ggX8_recount_X8_wordPart : GoodIn wsX8_recount wsX8_wordPart := goodIn_r _ [22, 1, 23, 24, 25, 26, 27, 28, 29, 30, 31, 32, 33, 34, 35, 36, 37, 38, 39, 40] (by decide +kernel) (by decide +kernel)
set_option maxRecDepth 20000 in
theorem gX8_recount_X8_wordPart : GoodIn wsX8_recount (wsV RX8 72 RX8 yX8_wordPart wsX8_wordPart) := goodIn_app (goodIn_of _ (by decide +kernel)) ggX8_recount_X8_wordPart
theorem dX8_recount_0 : decode cX8_recount 0 = .ok (.aload_n 0, 1) := by decide +kernel
theorem dX8_recount_1 : decode cX8_recount 1 = .ok (.iload_n 1, 1) := by decide +kernel
theorem dX8_recount_2 : decode cX8_recount 2 = .ok (.invokevirtual 154, 3) := by decide +kernel
theorem dX8_recount_5 : decode cX8_recount 5 = .ok (.ifCond .eq 13, 3) := by decide +kernel
theorem dX8_recount_8 : decode cX8_recount 8 = .ok (.iload_n 2, 1) := by decide +kernel
theorem dX8_recount_9 : decode cX8_recount 9 = .ok (.iconst 1, 1) := by decide +kernel
theorem dX8_recount_10 : decode cX8_recount 10 = .ok (.bipush 99, 2) := by decide +kernel
theorem dX8_recount_12 : decode cX8_recount 12 = .ok (.invokestatic 64, 3) := by decide +kernel
theorem dX8_recount_15 : decode cX8_recount 15 = .ok (.ifCond .ne 18, 3) := by decide +kernel
theorem dX8_recount_18 : decode cX8_recount 18 = .ok (.aload_n 0, 1) := by decide +kernel
theorem dX8_recount_19 : decode cX8_recount 19 = .ok (.iload_n 1, 1) := by decide +kernel
theorem dX8_recount_20 : decode cX8_recount 20 = .ok (.invokevirtual 154, 3) := by decide +kernel
theorem dX8_recount_23 : decode cX8_recount 23 = .ok (.ifCond .eq 8, 3) := by decide +kernel
theorem dX8_recount_26 : decode cX8_recount 26 = .ok (.bipush (-2), 2) := by decide +kernel
theorem dX8_recount_28 : decode cX8_recount 28 = .ok (.goto 4, 3) := by decide +kernel
theorem dX8_recount_31 : decode cX8_recount 31 = .ok (.iconst (-1), 1) := by decide +kernel
theorem dX8_recount_32 : decode cX8_recount 32 = .ok (.ireturn, 1) := by decide +kernel
theorem dX8_recount_33 : decode cX8_recount 33 = .ok (.aload_n 0, 1) := by decide +kernel
theorem dX8_recount_34 : decode cX8_recount 34 = .ok (.invokevirtual 144, 3) := by decide +kernel
theorem dX8_recount_37 : decode cX8_recount 37 = .ok (.aload_n 0, 1) := by decide +kernel
theorem dX8_recount_38 : decode cX8_recount 38 = .ok (.iload_n 1, 1) := by decide +kernel
theorem dX8_recount_39 : decode cX8_recount 39 = .ok (.iconst 1, 1) := by decide +kernel
theorem dX8_recount_40 : decode cX8_recount 40 = .ok (.invokevirtual 72, 3) := by decide +kernel
theorem dX8_recount_43 : decode cX8_recount 43 = .ok (.istore_n 3, 1) := by decide +kernel
theorem dX8_recount_44 : decode cX8_recount 44 = .ok (.aload_n 0, 1) := by decide +kernel
theorem dX8_recount_45 : decode cX8_recount 45 = .ok (.getfield 7, 3) := by decide +kernel
theorem dX8_recount_48 : decode cX8_recount 48 = .ok (.bipush 98, 2) := by decide +kernel
theorem dX8_recount_50 : decode cX8_recount 50 = .ok (.bipush 14, 2) := by decide +kernel
theorem dX8_recount_52 : decode cX8_recount 52 = .ok (.iload_n 1, 1) := by decide +kernel
theorem dX8_recount_53 : decode cX8_recount 53 = .ok (.imul, 1) := by decide +kernel
theorem dX8_recount_54 : decode cX8_recount 54 = .ok (.iadd, 1) := by decide +kernel
theorem dX8_recount_55 : decode cX8_recount 55 = .ok (.iconst 1, 1) := by decide +kernel
theorem dX8_recount_56 : decode cX8_recount 56 = .ok (.iadd, 1) := by decide +kernel
theorem dX8_recount_57 : decode cX8_recount 57 = .ok (.iload_n 2, 1) := by decide +kernel
theorem dX8_recount_58 : decode cX8_recount 58 = .ok (.iastore, 1) := by decide +kernel
theorem dX8_recount_59 : decode cX8_recount 59 = .ok (.iload_n 3, 1) := by decide +kernel
theorem dX8_recount_60 : decode cX8_recount 60 = .ok (.ireturn, 1) := by decide +kernel
set_option maxRecDepth 20000 in
theorem ggX8_forget_X8_isWord : GoodIn wsX8_forget wsX8_isWord := goodIn_r _ [6, 1, 7, 8, 5, 9, 19, 20, 21, 22, 23, 24, 25, 26, 27, 28, 29, 30, 31, 32, 33, 34, 35, 36] (by decide +kernel) (by decide +kernel)
set_option maxRecDepth 20000 in
theorem gX8_forget_X8_isWord : GoodIn wsX8_forget (wsV RX8 154 RX8 yX8_isWord wsX8_isWord) := goodIn_app (goodIn_of _ (by decide +kernel)) ggX8_forget_X8_isWord
set_option maxRecDepth 20000 in
theorem ggX8_forget_X8_record : GoodIn wsX8_forget wsX8_record := goodIn_r _ [13, 14, 15, 1, 16, 17, 5, 18, 19, 20, 21, 22, 23, 24, 25, 26, 27, 28, 29, 30, 31, 32, 33, 34, 35, 36] (by decide +kernel) (by decide +kernel)
set_option maxRecDepth 20000 in
theorem gX8_forget_X8_record : GoodIn wsX8_forget (wsV RX8 144 RX8 yX8_record wsX8_record) := goodIn_app (goodIn_of _ (by decide +kernel)) ggX8_forget_X8_record
theorem dX8_forget_0 : decode cX8_forget 0 = .ok (.aload_n 0, 1) := by decide +kernel
theorem dX8_forget_1 : decode cX8_forget 1 = .ok (.iload_n 1, 1) := by decide +kernel
theorem dX8_forget_2 : decode cX8_forget 2 = .ok (.invokevirtual 154, 3) := by decide +kernel
theorem dX8_forget_5 : decode cX8_forget 5 = .ok (.ifCond .ne 5, 3) := by decide +kernel
theorem dX8_forget_8 : decode cX8_forget 8 = .ok (.iconst (-1), 1) := by decide +kernel
theorem dX8_forget_9 : decode cX8_forget 9 = .ok (.ireturn, 1) := by decide +kernel
theorem dX8_forget_10 : decode cX8_forget 10 = .ok (.aload_n 0, 1) := by decide +kernel
theorem dX8_forget_11 : decode cX8_forget 11 = .ok (.invokevirtual 144, 3) := by decide +kernel
theorem dX8_forget_14 : decode cX8_forget 14 = .ok (.bipush 98, 2) := by decide +kernel
theorem dX8_forget_16 : decode cX8_forget 16 = .ok (.bipush 14, 2) := by decide +kernel
theorem dX8_forget_18 : decode cX8_forget 18 = .ok (.iload_n 1, 1) := by decide +kernel
theorem dX8_forget_19 : decode cX8_forget 19 = .ok (.imul, 1) := by decide +kernel
theorem dX8_forget_20 : decode cX8_forget 20 = .ok (.iadd, 1) := by decide +kernel
theorem dX8_forget_21 : decode cX8_forget 21 = .ok (.istore_n 2, 1) := by decide +kernel
theorem dX8_forget_22 : decode cX8_forget 22 = .ok (.iload_n 2, 1) := by decide +kernel
theorem dX8_forget_23 : decode cX8_forget 23 = .ok (.bipush 98, 2) := by decide +kernel
theorem dX8_forget_25 : decode cX8_forget 25 = .ok (.bipush 14, 2) := by decide +kernel
theorem dX8_forget_27 : decode cX8_forget 27 = .ok (.aload_n 0, 1) := by decide +kernel
theorem dX8_forget_28 : decode cX8_forget 28 = .ok (.getfield 7, 3) := by decide +kernel
theorem dX8_forget_31 : decode cX8_forget 31 = .ok (.iconst 1, 1) := by decide +kernel
theorem dX8_forget_32 : decode cX8_forget 32 = .ok (.iaload, 1) := by decide +kernel
theorem dX8_forget_33 : decode cX8_forget 33 = .ok (.iconst 1, 1) := by decide +kernel
theorem dX8_forget_34 : decode cX8_forget 34 = .ok (.isub, 1) := by decide +kernel
theorem dX8_forget_35 : decode cX8_forget 35 = .ok (.imul, 1) := by decide +kernel
theorem dX8_forget_36 : decode cX8_forget 36 = .ok (.iadd, 1) := by decide +kernel
theorem dX8_forget_37 : decode cX8_forget 37 = .ok (.if_icmp .ge 24, 3) := by decide +kernel
theorem dX8_forget_40 : decode cX8_forget 40 = .ok (.aload_n 0, 1) := by decide +kernel
theorem dX8_forget_41 : decode cX8_forget 41 = .ok (.getfield 7, 3) := by decide +kernel
theorem dX8_forget_44 : decode cX8_forget 44 = .ok (.iload_n 2, 1) := by decide +kernel
theorem dX8_forget_45 : decode cX8_forget 45 = .ok (.aload_n 0, 1) := by decide +kernel
theorem dX8_forget_46 : decode cX8_forget 46 = .ok (.getfield 7, 3) := by decide +kernel
theorem dX8_forget_49 : decode cX8_forget 49 = .ok (.iload_n 2, 1) := by decide +kernel
theorem dX8_forget_50 : decode cX8_forget 50 = .ok (.bipush 14, 2) := by decide +kernel
theorem dX8_forget_52 : decode cX8_forget 52 = .ok (.iadd, 1) := by decide +kernel
theorem dX8_forget_53 : decode cX8_forget 53 = .ok (.iaload, 1) := by decide +kernel
theorem dX8_forget_54 : decode cX8_forget 54 = .ok (.iastore, 1) := by decide +kernel
theorem dX8_forget_55 : decode cX8_forget 55 = .ok (.iinc 2 1, 3) := by decide +kernel
theorem dX8_forget_58 : decode cX8_forget 58 = .ok (.goto (-36), 3) := by decide +kernel
theorem dX8_forget_61 : decode cX8_forget 61 = .ok (.aload_n 0, 1) := by decide +kernel
theorem dX8_forget_62 : decode cX8_forget 62 = .ok (.getfield 7, 3) := by decide +kernel
theorem dX8_forget_65 : decode cX8_forget 65 = .ok (.iconst 1, 1) := by decide +kernel
theorem dX8_forget_66 : decode cX8_forget 66 = .ok (.dup2, 1) := by decide +kernel
theorem dX8_forget_67 : decode cX8_forget 67 = .ok (.iaload, 1) := by decide +kernel
theorem dX8_forget_68 : decode cX8_forget 68 = .ok (.iconst 1, 1) := by decide +kernel
theorem dX8_forget_69 : decode cX8_forget 69 = .ok (.isub, 1) := by decide +kernel
theorem dX8_forget_70 : decode cX8_forget 70 = .ok (.iastore, 1) := by decide +kernel
theorem dX8_forget_71 : decode cX8_forget 71 = .ok (.aload_n 0, 1) := by decide +kernel
theorem dX8_forget_72 : decode cX8_forget 72 = .ok (.getfield 7, 3) := by decide +kernel
theorem dX8_forget_75 : decode cX8_forget 75 = .ok (.iconst 1, 1) := by decide +kernel
theorem dX8_forget_76 : decode cX8_forget 76 = .ok (.iaload, 1) := by decide +kernel
theorem dX8_forget_77 : decode cX8_forget 77 = .ok (.ireturn, 1) := by decide +kernel
set_option maxRecDepth 20000 in
theorem ggX8_grow_X8_growsAt : GoodIn wsX8_grow wsX8_growsAt := goodIn_r _ [8, 9, 2, 10, 11, 12, 7, 13, 1, 14, 15, 3, 16, 17, 18, 19, 20, 21, 22, 23, 24, 25, 26, 27, 28, 29, 30, 31, 32, 33, 34, 35, 36, 37, 38, 39, 40, 41, 42, 43, 44, 45, 46, 47, 48, 49, 50, 51, 52, 53, 73, 74, 75, 76, 77, 78, 79, 80, 81, 82, 83, 84, 85, 86, 87, 88, 89, 90] (by decide +kernel) (by decide +kernel)
set_option maxRecDepth 20000 in
theorem gX8_grow_X8_growsAt : GoodIn wsX8_grow (wsV RX8 157 RX8 yX8_growsAt wsX8_growsAt) := goodIn_app (goodIn_of _ (by decide +kernel)) ggX8_grow_X8_growsAt
set_option maxRecDepth 20000 in
theorem ggX8_grow_X8_record : GoodIn wsX8_grow wsX8_record := goodIn_r _ [57, 58, 59, 1, 60, 61, 7, 62, 73, 74, 75, 76, 77, 78, 79, 80, 81, 82, 83, 84, 85, 86, 87, 88, 89, 90] (by decide +kernel) (by decide +kernel)
set_option maxRecDepth 20000 in
theorem gX8_grow_X8_record : GoodIn wsX8_grow (wsV RX8 144 RX8 yX8_record wsX8_record) := goodIn_app (goodIn_of _ (by decide +kernel)) ggX8_grow_X8_record
set_option maxRecDepth 20000 in
theorem ggX8_grow_X8_addPiece : GoodIn wsX8_grow wsX8_addPiece := goodIn_r _ [66, 1, 67, 68, 7, 69, 70, 71, 72, 73, 74, 75, 76, 77, 78, 79, 80, 81, 82, 83, 84, 85, 86, 87, 88, 89, 90] (by decide +kernel) (by decide +kernel)
set_option maxRecDepth 20000 in
theorem gX8_grow_X8_addPiece : GoodIn wsX8_grow (wsV RX8 147 RX8 yX8_addPiece wsX8_addPiece) := goodIn_app (goodIn_of _ (by decide +kernel)) ggX8_grow_X8_addPiece
theorem dX8_grow_0 : decode cX8_grow 0 = .ok (.aload_n 0, 1) := by decide +kernel
theorem dX8_grow_1 : decode cX8_grow 1 = .ok (.getfield 7, 3) := by decide +kernel
theorem dX8_grow_4 : decode cX8_grow 4 = .ok (.iconst 0, 1) := by decide +kernel
theorem dX8_grow_5 : decode cX8_grow 5 = .ok (.iaload, 1) := by decide +kernel
theorem dX8_grow_6 : decode cX8_grow 6 = .ok (.bipush 16, 2) := by decide +kernel
theorem dX8_grow_8 : decode cX8_grow 8 = .ok (.if_icmp .ne 6, 3) := by decide +kernel
theorem dX8_grow_11 : decode cX8_grow 11 = .ok (.bipush (-4), 2) := by decide +kernel
theorem dX8_grow_13 : decode cX8_grow 13 = .ok (.ireturn, 1) := by decide +kernel
theorem dX8_grow_14 : decode cX8_grow 14 = .ok (.aload_n 0, 1) := by decide +kernel
theorem dX8_grow_15 : decode cX8_grow 15 = .ok (.invokevirtual 157, 3) := by decide +kernel
theorem dX8_grow_18 : decode cX8_grow 18 = .ok (.istore_n 1, 1) := by decide +kernel
theorem dX8_grow_19 : decode cX8_grow 19 = .ok (.iload_n 1, 1) := by decide +kernel
theorem dX8_grow_20 : decode cX8_grow 20 = .ok (.bipush (-6), 2) := by decide +kernel
theorem dX8_grow_22 : decode cX8_grow 22 = .ok (.if_icmp .ne 6, 3) := by decide +kernel
theorem dX8_grow_25 : decode cX8_grow 25 = .ok (.bipush (-5), 2) := by decide +kernel
theorem dX8_grow_27 : decode cX8_grow 27 = .ok (.ireturn, 1) := by decide +kernel
theorem dX8_grow_28 : decode cX8_grow 28 = .ok (.aload_n 0, 1) := by decide +kernel
theorem dX8_grow_29 : decode cX8_grow 29 = .ok (.invokevirtual 144, 3) := by decide +kernel
theorem dX8_grow_32 : decode cX8_grow 32 = .ok (.aload_n 0, 1) := by decide +kernel
theorem dX8_grow_33 : decode cX8_grow 33 = .ok (.aload_n 0, 1) := by decide +kernel
theorem dX8_grow_34 : decode cX8_grow 34 = .ok (.getfield 44, 3) := by decide +kernel
theorem dX8_grow_37 : decode cX8_grow 37 = .ok (.iload_n 1, 1) := by decide +kernel
theorem dX8_grow_38 : decode cX8_grow 38 = .ok (.iaload, 1) := by decide +kernel
theorem dX8_grow_39 : decode cX8_grow 39 = .ok (.aload_n 0, 1) := by decide +kernel
theorem dX8_grow_40 : decode cX8_grow 40 = .ok (.getfield 50, 3) := by decide +kernel
theorem dX8_grow_43 : decode cX8_grow 43 = .ok (.iload_n 1, 1) := by decide +kernel
theorem dX8_grow_44 : decode cX8_grow 44 = .ok (.iaload, 1) := by decide +kernel
theorem dX8_grow_45 : decode cX8_grow 45 = .ok (.invokevirtual 147, 3) := by decide +kernel
theorem dX8_grow_48 : decode cX8_grow 48 = .ok (.ireturn, 1) := by decide +kernel
set_option maxRecDepth 20000 in
theorem ggX8_tune_X8_record : GoodIn wsX8_tune wsX8_record := goodIn_r _ [7, 8, 9, 1, 10, 11, 6, 12, 56, 57, 58, 59, 60, 61, 62, 63, 64, 65, 66, 67, 68, 69, 70, 71, 72, 73] (by decide +kernel) (by decide +kernel)
set_option maxRecDepth 20000 in
theorem gX8_tune_X8_record : GoodIn wsX8_tune (wsV RX8 144 RX8 yX8_record wsX8_record) := goodIn_app (goodIn_of _ (by decide +kernel)) ggX8_tune_X8_record
set_option maxRecDepth 20000 in
theorem ggX8_tune_X8_findBears : GoodIn wsX8_tune wsX8_findBears := goodIn_r _ [16, 1, 2, 17, 18, 19, 6, 20, 21, 22, 23, 24, 25, 26, 27, 28, 29, 30, 31, 32, 33, 34, 35, 36, 37, 38, 39, 40, 41, 42, 43, 44, 45, 46, 47, 48, 49, 50, 51, 52, 53, 54, 55, 56, 57, 58, 59, 60, 61, 62, 63, 64, 65, 66, 67, 68, 69, 70, 71, 72, 73] (by decide +kernel) (by decide +kernel)
set_option maxRecDepth 20000 in
theorem gX8_tune_X8_findBears : GoodIn wsX8_tune (wsV RX8 160 RX8 yX8_findBears wsX8_findBears) := goodIn_app (goodIn_of _ (by decide +kernel)) ggX8_tune_X8_findBears
set_option maxRecDepth 20000 in
theorem ggX8_tune_X8_piecePart : GoodIn wsX8_tune wsX8_piecePart := goodIn_r _ [50, 1, 56, 57, 58, 59, 60, 61, 62, 63, 64, 65, 66, 67, 68, 69, 70, 71, 72, 73] (by decide +kernel) (by decide +kernel)
set_option maxRecDepth 20000 in
theorem gX8_tune_X8_piecePart : GoodIn wsX8_tune (wsV RX8 68 RX8 yX8_piecePart wsX8_piecePart) := goodIn_app (goodIn_of _ (by decide +kernel)) ggX8_tune_X8_piecePart
theorem dX8_tune_0 : decode cX8_tune 0 = .ok (.aload_n 0, 1) := by decide +kernel
theorem dX8_tune_1 : decode cX8_tune 1 = .ok (.invokevirtual 144, 3) := by decide +kernel
theorem dX8_tune_4 : decode cX8_tune 4 = .ok (.aload_n 0, 1) := by decide +kernel
theorem dX8_tune_5 : decode cX8_tune 5 = .ok (.invokevirtual 160, 3) := by decide +kernel
theorem dX8_tune_8 : decode cX8_tune 8 = .ok (.iconst 0, 1) := by decide +kernel
theorem dX8_tune_9 : decode cX8_tune 9 = .ok (.istore_n 1, 1) := by decide +kernel
theorem dX8_tune_10 : decode cX8_tune 10 = .ok (.iconst 0, 1) := by decide +kernel
theorem dX8_tune_11 : decode cX8_tune 11 = .ok (.istore_n 2, 1) := by decide +kernel
theorem dX8_tune_12 : decode cX8_tune 12 = .ok (.iload_n 2, 1) := by decide +kernel
theorem dX8_tune_13 : decode cX8_tune 13 = .ok (.aload_n 0, 1) := by decide +kernel
theorem dX8_tune_14 : decode cX8_tune 14 = .ok (.getfield 7, 3) := by decide +kernel
theorem dX8_tune_17 : decode cX8_tune 17 = .ok (.iconst 0, 1) := by decide +kernel
theorem dX8_tune_18 : decode cX8_tune 18 = .ok (.iaload, 1) := by decide +kernel
theorem dX8_tune_19 : decode cX8_tune 19 = .ok (.if_icmp .ge 30, 3) := by decide +kernel
theorem dX8_tune_22 : decode cX8_tune 22 = .ok (.aload_n 0, 1) := by decide +kernel
theorem dX8_tune_23 : decode cX8_tune 23 = .ok (.getfield 53, 3) := by decide +kernel
theorem dX8_tune_26 : decode cX8_tune 26 = .ok (.iload_n 2, 1) := by decide +kernel
theorem dX8_tune_27 : decode cX8_tune 27 = .ok (.iaload, 1) := by decide +kernel
theorem dX8_tune_28 : decode cX8_tune 28 = .ok (.iload_n 1, 1) := by decide +kernel
theorem dX8_tune_29 : decode cX8_tune 29 = .ok (.if_icmp .le 12, 3) := by decide +kernel
theorem dX8_tune_32 : decode cX8_tune 32 = .ok (.aload_n 0, 1) := by decide +kernel
theorem dX8_tune_33 : decode cX8_tune 33 = .ok (.getfield 53, 3) := by decide +kernel
theorem dX8_tune_36 : decode cX8_tune 36 = .ok (.iload_n 2, 1) := by decide +kernel
theorem dX8_tune_37 : decode cX8_tune 37 = .ok (.iaload, 1) := by decide +kernel
theorem dX8_tune_38 : decode cX8_tune 38 = .ok (.goto 4, 3) := by decide +kernel
theorem dX8_tune_41 : decode cX8_tune 41 = .ok (.iload_n 1, 1) := by decide +kernel
theorem dX8_tune_42 : decode cX8_tune 42 = .ok (.istore_n 1, 1) := by decide +kernel
theorem dX8_tune_43 : decode cX8_tune 43 = .ok (.iinc 2 1, 3) := by decide +kernel
theorem dX8_tune_46 : decode cX8_tune 46 = .ok (.goto (-34), 3) := by decide +kernel
theorem dX8_tune_49 : decode cX8_tune 49 = .ok (.iconst 0, 1) := by decide +kernel
theorem dX8_tune_50 : decode cX8_tune 50 = .ok (.istore_n 2, 1) := by decide +kernel
theorem dX8_tune_51 : decode cX8_tune 51 = .ok (.iconst 0, 1) := by decide +kernel
theorem dX8_tune_52 : decode cX8_tune 52 = .ok (.istore_n 3, 1) := by decide +kernel
theorem dX8_tune_53 : decode cX8_tune 53 = .ok (.iload_n 3, 1) := by decide +kernel
theorem dX8_tune_54 : decode cX8_tune 54 = .ok (.aload_n 0, 1) := by decide +kernel
theorem dX8_tune_55 : decode cX8_tune 55 = .ok (.getfield 7, 3) := by decide +kernel
theorem dX8_tune_58 : decode cX8_tune 58 = .ok (.iconst 0, 1) := by decide +kernel
theorem dX8_tune_59 : decode cX8_tune 59 = .ok (.iaload, 1) := by decide +kernel
theorem dX8_tune_60 : decode cX8_tune 60 = .ok (.if_icmp .ge 66, 3) := by decide +kernel
theorem dX8_tune_63 : decode cX8_tune 63 = .ok (.iload_n 1, 1) := by decide +kernel
theorem dX8_tune_64 : decode cX8_tune 64 = .ok (.ifCond .ne 7, 3) := by decide +kernel
theorem dX8_tune_67 : decode cX8_tune 67 = .ok (.iconst 1, 1) := by decide +kernel
theorem dX8_tune_68 : decode cX8_tune 68 = .ok (.goto 16, 3) := by decide +kernel
theorem dX8_tune_71 : decode cX8_tune 71 = .ok (.iconst 1, 1) := by decide +kernel
theorem dX8_tune_72 : decode cX8_tune 72 = .ok (.bipush 8, 2) := by decide +kernel
theorem dX8_tune_74 : decode cX8_tune 74 = .ok (.aload_n 0, 1) := by decide +kernel
theorem dX8_tune_75 : decode cX8_tune 75 = .ok (.getfield 53, 3) := by decide +kernel
theorem dX8_tune_78 : decode cX8_tune 78 = .ok (.iload_n 3, 1) := by decide +kernel
theorem dX8_tune_79 : decode cX8_tune 79 = .ok (.iaload, 1) := by decide +kernel
theorem dX8_tune_80 : decode cX8_tune 80 = .ok (.imul, 1) := by decide +kernel
theorem dX8_tune_81 : decode cX8_tune 81 = .ok (.iload_n 1, 1) := by decide +kernel
theorem dX8_tune_82 : decode cX8_tune 82 = .ok (.idiv, 1) := by decide +kernel
theorem dX8_tune_83 : decode cX8_tune 83 = .ok (.iadd, 1) := by decide +kernel
theorem dX8_tune_84 : decode cX8_tune 84 = .ok (.istore 4, 2) := by decide +kernel
theorem dX8_tune_86 : decode cX8_tune 86 = .ok (.iload_n 2, 1) := by decide +kernel
theorem dX8_tune_87 : decode cX8_tune 87 = .ok (.iload 4, 2) := by decide +kernel
theorem dX8_tune_89 : decode cX8_tune 89 = .ok (.aload_n 0, 1) := by decide +kernel
theorem dX8_tune_90 : decode cX8_tune 90 = .ok (.iload_n 3, 1) := by decide +kernel
theorem dX8_tune_91 : decode cX8_tune 91 = .ok (.iconst 1, 1) := by decide +kernel
theorem dX8_tune_92 : decode cX8_tune 92 = .ok (.invokevirtual 68, 3) := by decide +kernel
theorem dX8_tune_95 : decode cX8_tune 95 = .ok (.if_icmp .ne 7, 3) := by decide +kernel
theorem dX8_tune_98 : decode cX8_tune 98 = .ok (.iconst 0, 1) := by decide +kernel
theorem dX8_tune_99 : decode cX8_tune 99 = .ok (.goto 4, 3) := by decide +kernel
theorem dX8_tune_102 : decode cX8_tune 102 = .ok (.iconst 1, 1) := by decide +kernel
theorem dX8_tune_103 : decode cX8_tune 103 = .ok (.iadd, 1) := by decide +kernel
theorem dX8_tune_104 : decode cX8_tune 104 = .ok (.istore_n 2, 1) := by decide +kernel
theorem dX8_tune_105 : decode cX8_tune 105 = .ok (.aload_n 0, 1) := by decide +kernel
theorem dX8_tune_106 : decode cX8_tune 106 = .ok (.getfield 7, 3) := by decide +kernel
theorem dX8_tune_109 : decode cX8_tune 109 = .ok (.iconst 2, 1) := by decide +kernel
theorem dX8_tune_110 : decode cX8_tune 110 = .ok (.bipush 6, 2) := by decide +kernel
theorem dX8_tune_112 : decode cX8_tune 112 = .ok (.iload_n 3, 1) := by decide +kernel
theorem dX8_tune_113 : decode cX8_tune 113 = .ok (.imul, 1) := by decide +kernel
theorem dX8_tune_114 : decode cX8_tune 114 = .ok (.iadd, 1) := by decide +kernel
theorem dX8_tune_115 : decode cX8_tune 115 = .ok (.iconst 1, 1) := by decide +kernel
theorem dX8_tune_116 : decode cX8_tune 116 = .ok (.iadd, 1) := by decide +kernel
theorem dX8_tune_117 : decode cX8_tune 117 = .ok (.iload 4, 2) := by decide +kernel
theorem dX8_tune_119 : decode cX8_tune 119 = .ok (.iastore, 1) := by decide +kernel
theorem dX8_tune_120 : decode cX8_tune 120 = .ok (.iinc 3 1, 3) := by decide +kernel
theorem dX8_tune_123 : decode cX8_tune 123 = .ok (.goto (-70), 3) := by decide +kernel
theorem dX8_tune_126 : decode cX8_tune 126 = .ok (.iload_n 2, 1) := by decide +kernel
theorem dX8_tune_127 : decode cX8_tune 127 = .ok (.ireturn, 1) := by decide +kernel
set_option maxRecDepth 20000 in
theorem ggX8_shrink_X8_within : GoodIn wsX8_shrink wsX8_within := goodIn_r _ [5] (by decide +kernel) (by decide +kernel)
set_option maxRecDepth 20000 in
theorem gX8_shrink_X8_within : GoodIn wsX8_shrink (va_wsS RX8 64 yX8_within wsX8_within) := goodIn_app (goodIn_of _ (by decide +kernel)) ggX8_shrink_X8_within
set_option maxRecDepth 20000 in
theorem ggX8_shrink_X8_record : GoodIn wsX8_shrink wsX8_record := goodIn_r _ [9, 10, 11, 1, 12, 13, 4, 14, 75, 76, 77, 78, 79, 80, 81, 82, 83, 84, 85, 86, 87, 88, 89, 90, 91, 92] (by decide +kernel) (by decide +kernel)
set_option maxRecDepth 20000 in
theorem gX8_shrink_X8_record : GoodIn wsX8_shrink (wsV RX8 144 RX8 yX8_record wsX8_record) := goodIn_app (goodIn_of _ (by decide +kernel)) ggX8_shrink_X8_record
set_option maxRecDepth 20000 in
theorem ggX8_shrink_X8_leastOf : GoodIn wsX8_shrink wsX8_leastOf := goodIn_r _ [18, 1, 19, 20, 21, 4, 22, 23, 24, 25, 26, 27, 28, 29, 30, 31, 32, 33, 34, 35, 36, 37, 38, 39, 40, 41, 42, 43, 44, 45, 46, 47, 48, 49, 50, 51, 52, 53, 54, 55, 56, 57, 58, 59, 60, 61, 62, 63, 64, 65, 66, 67, 68, 69, 70, 12, 13, 14, 71, 72, 73, 74, 75, 76, 77, 78, 79, 80, 81, 82, 83, 84, 85, 86, 87, 88, 89, 90, 91, 92] (by decide +kernel) (by decide +kernel)
set_option maxRecDepth 20000 in
theorem gX8_shrink_X8_leastOf : GoodIn wsX8_shrink (wsV RX8 163 RX8 yX8_leastOf wsX8_leastOf) := goodIn_app (goodIn_of _ (by decide +kernel)) ggX8_shrink_X8_leastOf
set_option maxRecDepth 20000 in
theorem ggX8_shrink_X8_dropPiece : GoodIn wsX8_shrink wsX8_dropPiece := goodIn_r _ [74, 1, 75, 76, 77, 78, 79, 80, 81, 82, 83, 84, 85, 86, 87, 88, 89, 90, 91, 92] (by decide +kernel) (by decide +kernel)
set_option maxRecDepth 20000 in
theorem gX8_shrink_X8_dropPiece : GoodIn wsX8_shrink (wsV RX8 117 RX8 yX8_dropPiece wsX8_dropPiece) := goodIn_app (goodIn_of _ (by decide +kernel)) ggX8_shrink_X8_dropPiece
theorem dX8_shrink_0 : decode cX8_shrink 0 = .ok (.iload_n 1, 1) := by decide +kernel
theorem dX8_shrink_1 : decode cX8_shrink 1 = .ok (.iconst 0, 1) := by decide +kernel
theorem dX8_shrink_2 : decode cX8_shrink 2 = .ok (.bipush 16, 2) := by decide +kernel
theorem dX8_shrink_4 : decode cX8_shrink 4 = .ok (.invokestatic 64, 3) := by decide +kernel
theorem dX8_shrink_7 : decode cX8_shrink 7 = .ok (.ifCond .ne 6, 3) := by decide +kernel
theorem dX8_shrink_10 : decode cX8_shrink 10 = .ok (.bipush (-2), 2) := by decide +kernel
theorem dX8_shrink_12 : decode cX8_shrink 12 = .ok (.ireturn, 1) := by decide +kernel
theorem dX8_shrink_13 : decode cX8_shrink 13 = .ok (.aload_n 0, 1) := by decide +kernel
theorem dX8_shrink_14 : decode cX8_shrink 14 = .ok (.invokevirtual 144, 3) := by decide +kernel
theorem dX8_shrink_17 : decode cX8_shrink 17 = .ok (.iconst 0, 1) := by decide +kernel
theorem dX8_shrink_18 : decode cX8_shrink 18 = .ok (.istore_n 2, 1) := by decide +kernel
theorem dX8_shrink_19 : decode cX8_shrink 19 = .ok (.aload_n 0, 1) := by decide +kernel
theorem dX8_shrink_20 : decode cX8_shrink 20 = .ok (.getfield 7, 3) := by decide +kernel
theorem dX8_shrink_23 : decode cX8_shrink 23 = .ok (.iconst 0, 1) := by decide +kernel
theorem dX8_shrink_24 : decode cX8_shrink 24 = .ok (.iaload, 1) := by decide +kernel
theorem dX8_shrink_25 : decode cX8_shrink 25 = .ok (.iload_n 1, 1) := by decide +kernel
theorem dX8_shrink_26 : decode cX8_shrink 26 = .ok (.if_icmp .le 17, 3) := by decide +kernel
theorem dX8_shrink_29 : decode cX8_shrink 29 = .ok (.aload_n 0, 1) := by decide +kernel
theorem dX8_shrink_30 : decode cX8_shrink 30 = .ok (.aload_n 0, 1) := by decide +kernel
theorem dX8_shrink_31 : decode cX8_shrink 31 = .ok (.invokevirtual 163, 3) := by decide +kernel
theorem dX8_shrink_34 : decode cX8_shrink 34 = .ok (.invokevirtual 117, 3) := by decide +kernel
theorem dX8_shrink_37 : decode cX8_shrink 37 = .ok (.iinc 2 1, 3) := by decide +kernel
theorem dX8_shrink_40 : decode cX8_shrink 40 = .ok (.goto (-21), 3) := by decide +kernel
theorem dX8_shrink_43 : decode cX8_shrink 43 = .ok (.iload_n 2, 1) := by decide +kernel
theorem dX8_shrink_44 : decode cX8_shrink 44 = .ok (.ireturn, 1) := by decide +kernel
set_option maxRecDepth 20000 in
theorem ggX8_partOften_X8_findCut : GoodIn wsX8_partOften wsX8_findCut := goodIn_r _ [7, 8, 9, 2, 10, 11, 12, 6, 13, 1, 14, 15, 16, 17, 18, 19, 20, 21, 22, 23, 24, 25, 26, 27, 28, 29, 30, 31, 32, 33, 34, 35, 36, 37, 38, 39, 40, 41, 42, 43, 44, 45, 46, 47, 48, 49, 50, 51, 52, 53, 54, 55] (by decide +kernel) (by decide +kernel)
set_option maxRecDepth 20000 in
theorem gX8_partOften_X8_findCut : GoodIn wsX8_partOften (wsV RX8 95 RX8 yX8_findCut wsX8_findCut) := goodIn_app (goodIn_of _ (by decide +kernel)) ggX8_partOften_X8_findCut
set_option maxRecDepth 20000 in
theorem ggX8_partOften_X8_wordPart : GoodIn wsX8_partOften wsX8_wordPart := goodIn_r _ [13, 1, 38, 39, 40, 41, 42, 43, 44, 45, 46, 47, 48, 49, 50, 51, 52, 53, 54, 55] (by decide +kernel) (by decide +kernel)
set_option maxRecDepth 20000 in
theorem gX8_partOften_X8_wordPart : GoodIn wsX8_partOften (wsV RX8 72 RX8 yX8_wordPart wsX8_wordPart) := goodIn_app (goodIn_of _ (by decide +kernel)) ggX8_partOften_X8_wordPart
set_option maxRecDepth 20000 in
theorem ggX8_partOften_X8_textIn : GoodIn wsX8_partOften wsX8_textIn := goodIn_r _ [25, 10, 11, 12, 6, 13, 1, 38, 39, 40, 41, 42, 43, 44, 45, 46, 47, 48, 49, 50, 51, 52, 53, 54, 55] (by decide +kernel) (by decide +kernel)
set_option maxRecDepth 20000 in
theorem gX8_partOften_X8_textIn : GoodIn wsX8_partOften (wsV RX8 82 RX8 yX8_textIn wsX8_textIn) := goodIn_app (goodIn_of _ (by decide +kernel)) ggX8_partOften_X8_textIn
set_option maxRecDepth 20000 in
theorem ggX8_partOften_X8_textOf : GoodIn wsX8_partOften wsX8_textOf := goodIn_r _ [33, 34, 35, 36, 6, 37, 1, 38, 39, 40, 41, 42, 43, 44, 45, 46, 47, 48, 49, 50, 51, 52, 53, 54, 55] (by decide +kernel) (by decide +kernel)
set_option maxRecDepth 20000 in
theorem gX8_partOften_X8_textOf : GoodIn wsX8_partOften (wsV RX8 79 RX8 yX8_textOf wsX8_textOf) := goodIn_app (goodIn_of _ (by decide +kernel)) ggX8_partOften_X8_textOf
theorem dX8_partOften_0 : decode cX8_partOften 0 = .ok (.iconst 0, 1) := by decide +kernel
theorem dX8_partOften_1 : decode cX8_partOften 1 = .ok (.istore_n 2, 1) := by decide +kernel
theorem dX8_partOften_2 : decode cX8_partOften 2 = .ok (.iconst 0, 1) := by decide +kernel
theorem dX8_partOften_3 : decode cX8_partOften 3 = .ok (.istore_n 3, 1) := by decide +kernel
theorem dX8_partOften_4 : decode cX8_partOften 4 = .ok (.iload_n 3, 1) := by decide +kernel
theorem dX8_partOften_5 : decode cX8_partOften 5 = .ok (.aload_n 0, 1) := by decide +kernel
theorem dX8_partOften_6 : decode cX8_partOften 6 = .ok (.getfield 7, 3) := by decide +kernel
theorem dX8_partOften_9 : decode cX8_partOften 9 = .ok (.iconst 1, 1) := by decide +kernel
theorem dX8_partOften_10 : decode cX8_partOften 10 = .ok (.iaload, 1) := by decide +kernel
theorem dX8_partOften_11 : decode cX8_partOften 11 = .ok (.if_icmp .ge 78, 3) := by decide +kernel
theorem dX8_partOften_14 : decode cX8_partOften 14 = .ok (.aload_n 0, 1) := by decide +kernel
theorem dX8_partOften_15 : decode cX8_partOften 15 = .ok (.iload_n 3, 1) := by decide +kernel
theorem dX8_partOften_16 : decode cX8_partOften 16 = .ok (.invokevirtual 95, 3) := by decide +kernel
theorem dX8_partOften_19 : decode cX8_partOften 19 = .ok (.iconst 0, 1) := by decide +kernel
theorem dX8_partOften_20 : decode cX8_partOften 20 = .ok (.istore 4, 2) := by decide +kernel
theorem dX8_partOften_22 : decode cX8_partOften 22 = .ok (.iload 4, 2) := by decide +kernel
theorem dX8_partOften_24 : decode cX8_partOften 24 = .ok (.aload_n 0, 1) := by decide +kernel
theorem dX8_partOften_25 : decode cX8_partOften 25 = .ok (.iload_n 3, 1) := by decide +kernel
theorem dX8_partOften_26 : decode cX8_partOften 26 = .ok (.iconst 0, 1) := by decide +kernel
theorem dX8_partOften_27 : decode cX8_partOften 27 = .ok (.invokevirtual 72, 3) := by decide +kernel
theorem dX8_partOften_30 : decode cX8_partOften 30 = .ok (.if_icmp .ge 53, 3) := by decide +kernel
theorem dX8_partOften_33 : decode cX8_partOften 33 = .ok (.iload_n 2, 1) := by decide +kernel
theorem dX8_partOften_34 : decode cX8_partOften 34 = .ok (.aload_n 0, 1) := by decide +kernel
theorem dX8_partOften_35 : decode cX8_partOften 35 = .ok (.iload_n 3, 1) := by decide +kernel
theorem dX8_partOften_36 : decode cX8_partOften 36 = .ok (.iload 4, 2) := by decide +kernel
theorem dX8_partOften_38 : decode cX8_partOften 38 = .ok (.aload_n 0, 1) := by decide +kernel
theorem dX8_partOften_39 : decode cX8_partOften 39 = .ok (.getfield 35, 3) := by decide +kernel
theorem dX8_partOften_42 : decode cX8_partOften 42 = .ok (.iload 4, 2) := by decide +kernel
theorem dX8_partOften_44 : decode cX8_partOften 44 = .ok (.iaload, 1) := by decide +kernel
theorem dX8_partOften_45 : decode cX8_partOften 45 = .ok (.invokevirtual 82, 3) := by decide +kernel
theorem dX8_partOften_48 : decode cX8_partOften 48 = .ok (.aload_n 0, 1) := by decide +kernel
theorem dX8_partOften_49 : decode cX8_partOften 49 = .ok (.iload_n 1, 1) := by decide +kernel
theorem dX8_partOften_50 : decode cX8_partOften 50 = .ok (.invokevirtual 79, 3) := by decide +kernel
theorem dX8_partOften_53 : decode cX8_partOften 53 = .ok (.if_icmp .ne 12, 3) := by decide +kernel
theorem dX8_partOften_56 : decode cX8_partOften 56 = .ok (.aload_n 0, 1) := by decide +kernel
theorem dX8_partOften_57 : decode cX8_partOften 57 = .ok (.iload_n 3, 1) := by decide +kernel
theorem dX8_partOften_58 : decode cX8_partOften 58 = .ok (.iconst 1, 1) := by decide +kernel
theorem dX8_partOften_59 : decode cX8_partOften 59 = .ok (.invokevirtual 72, 3) := by decide +kernel
theorem dX8_partOften_62 : decode cX8_partOften 62 = .ok (.goto 4, 3) := by decide +kernel
theorem dX8_partOften_65 : decode cX8_partOften 65 = .ok (.iconst 0, 1) := by decide +kernel
theorem dX8_partOften_66 : decode cX8_partOften 66 = .ok (.iadd, 1) := by decide +kernel
theorem dX8_partOften_67 : decode cX8_partOften 67 = .ok (.istore_n 2, 1) := by decide +kernel
theorem dX8_partOften_68 : decode cX8_partOften 68 = .ok (.iload 4, 2) := by decide +kernel
theorem dX8_partOften_70 : decode cX8_partOften 70 = .ok (.aload_n 0, 1) := by decide +kernel
theorem dX8_partOften_71 : decode cX8_partOften 71 = .ok (.getfield 35, 3) := by decide +kernel
theorem dX8_partOften_74 : decode cX8_partOften 74 = .ok (.iload 4, 2) := by decide +kernel
theorem dX8_partOften_76 : decode cX8_partOften 76 = .ok (.iaload, 1) := by decide +kernel
theorem dX8_partOften_77 : decode cX8_partOften 77 = .ok (.iadd, 1) := by decide +kernel
theorem dX8_partOften_78 : decode cX8_partOften 78 = .ok (.istore 4, 2) := by decide +kernel
theorem dX8_partOften_80 : decode cX8_partOften 80 = .ok (.goto (-58), 3) := by decide +kernel
theorem dX8_partOften_83 : decode cX8_partOften 83 = .ok (.iinc 3 1, 3) := by decide +kernel
theorem dX8_partOften_86 : decode cX8_partOften 86 = .ok (.goto (-82), 3) := by decide +kernel
theorem dX8_partOften_89 : decode cX8_partOften 89 = .ok (.iload_n 2, 1) := by decide +kernel
theorem dX8_partOften_90 : decode cX8_partOften 90 = .ok (.ireturn, 1) := by decide +kernel
set_option maxRecDepth 20000 in
theorem ggX8_ofPiece_X8_isPiece : GoodIn wsX8_ofPiece wsX8_isPiece := goodIn_r _ [7, 8, 9, 10, 6, 11, 96, 97, 98, 99, 100, 101, 102, 103, 104, 105, 106, 107, 108, 109, 110, 111, 112, 113] (by decide +kernel) (by decide +kernel)
set_option maxRecDepth 20000 in
theorem gX8_ofPiece_X8_isPiece : GoodIn wsX8_ofPiece (wsV RX8 150 RX8 yX8_isPiece wsX8_isPiece) := goodIn_app (goodIn_of _ (by decide +kernel)) ggX8_ofPiece_X8_isPiece
set_option maxRecDepth 20000 in
theorem ggX8_ofPiece_X8_piecePart : GoodIn wsX8_ofPiece wsX8_piecePart := goodIn_r _ [15, 8, 96, 97, 98, 99, 100, 101, 102, 103, 104, 105, 106, 107, 108, 109, 110, 111, 112, 113] (by decide +kernel) (by decide +kernel)
set_option maxRecDepth 20000 in
theorem gX8_ofPiece_X8_piecePart : GoodIn wsX8_ofPiece (wsV RX8 68 RX8 yX8_piecePart wsX8_piecePart) := goodIn_app (goodIn_of _ (by decide +kernel)) ggX8_ofPiece_X8_piecePart
set_option maxRecDepth 20000 in
theorem ggX8_ofPiece_X8_textOf : GoodIn wsX8_ofPiece wsX8_textOf := goodIn_r _ [19, 12, 13, 14, 6, 15, 8, 96, 97, 98, 99, 100, 101, 102, 103, 104, 105, 106, 107, 108, 109, 110, 111, 112, 113] (by decide +kernel) (by decide +kernel)
set_option maxRecDepth 20000 in
theorem gX8_ofPiece_X8_textOf : GoodIn wsX8_ofPiece (wsV RX8 79 RX8 yX8_textOf wsX8_textOf) := goodIn_app (goodIn_of _ (by decide +kernel)) ggX8_ofPiece_X8_textOf
set_option maxRecDepth 20000 in
theorem ggX8_ofPiece_X8_letterOf : GoodIn wsX8_ofPiece wsX8_letterOf := goodIn_r _ [22, 23, 24, 6, 25] (by decide +kernel) (by decide +kernel)
set_option maxRecDepth 20000 in
theorem gX8_ofPiece_X8_letterOf : GoodIn wsX8_ofPiece (va_wsS RX8 123 yX8_letterOf wsX8_letterOf) := goodIn_app (goodIn_of _ (by decide +kernel)) ggX8_ofPiece_X8_letterOf
set_option maxRecDepth 20000 in
theorem ggX8_ofPiece_X8_partOften : GoodIn wsX8_ofPiece wsX8_partOften := goodIn_r _ [29, 8, 30, 31, 32, 33, 6, 34, 35, 36, 37, 38, 39, 40, 41, 42, 43, 44, 45, 46, 47, 48, 49, 50, 51, 52, 53, 54, 55, 56, 16, 17, 18, 19, 12, 13, 14, 15, 96, 97, 98, 99, 100, 101, 102, 103, 104, 105, 106, 107, 108, 109, 110, 111, 112, 113] (by decide +kernel) (by decide +kernel)
set_option maxRecDepth 20000 in
theorem gX8_ofPiece_X8_partOften : GoodIn wsX8_ofPiece (wsV RX8 166 RX8 yX8_partOften wsX8_partOften) := goodIn_app (goodIn_of _ (by decide +kernel)) ggX8_ofPiece_X8_partOften
set_option maxRecDepth 20000 in
theorem ggX8_ofPiece_X8_lossOf : GoodIn wsX8_ofPiece wsX8_lossOf := goodIn_r _ [60, 8, 61, 62, 63, 64, 6, 65, 66, 67, 68, 69, 36, 31, 32, 33, 34, 35, 30, 37, 38, 39, 40, 41, 42, 43, 44, 45, 46, 47, 48, 49, 50, 51, 52, 53, 54, 55, 56, 16, 17, 18, 19, 12, 13, 14, 15, 70, 71, 72, 73, 74, 75, 76, 77, 78, 79, 80, 96, 97, 98, 99, 100, 101, 102, 103, 104, 105, 106, 107, 108, 109, 110, 111, 112, 113] (by decide +kernel) (by decide +kernel)
set_option maxRecDepth 20000 in
theorem gX8_ofPiece_X8_lossOf : GoodIn wsX8_ofPiece (wsV RX8 120 RX8 yX8_lossOf wsX8_lossOf) := goodIn_app (goodIn_of _ (by decide +kernel)) ggX8_ofPiece_X8_lossOf
set_option maxRecDepth 20000 in
theorem ggX8_ofPiece_X8_findBears : GoodIn wsX8_ofPiece wsX8_findBears := goodIn_r _ [84, 8, 2, 85, 86, 87, 6, 88, 89, 90, 37, 38, 39, 40, 41, 42, 43, 44, 45, 46, 47, 48, 49, 50, 51, 52, 53, 54, 55, 56, 16, 17, 18, 19, 12, 13, 14, 15, 91, 92, 93, 94, 95, 96, 97, 98, 99, 100, 101, 102, 103, 104, 105, 106, 107, 108, 109, 110, 111, 112, 113] (by decide +kernel) (by decide +kernel)
set_option maxRecDepth 20000 in
theorem gX8_ofPiece_X8_findBears : GoodIn wsX8_ofPiece (wsV RX8 160 RX8 yX8_findBears wsX8_findBears) := goodIn_app (goodIn_of _ (by decide +kernel)) ggX8_ofPiece_X8_findBears
theorem dX8_ofPiece_0 : decode cX8_ofPiece 0 = .ok (.aload_n 0, 1) := by decide +kernel
theorem dX8_ofPiece_1 : decode cX8_ofPiece 1 = .ok (.iload_n 1, 1) := by decide +kernel
theorem dX8_ofPiece_2 : decode cX8_ofPiece 2 = .ok (.invokevirtual 150, 3) := by decide +kernel
theorem dX8_ofPiece_5 : decode cX8_ofPiece 5 = .ok (.ifCond .ne 5, 3) := by decide +kernel
theorem dX8_ofPiece_8 : decode cX8_ofPiece 8 = .ok (.iconst (-1), 1) := by decide +kernel
theorem dX8_ofPiece_9 : decode cX8_ofPiece 9 = .ok (.ireturn, 1) := by decide +kernel
theorem dX8_ofPiece_10 : decode cX8_ofPiece 10 = .ok (.iload_n 2, 1) := by decide +kernel
theorem dX8_ofPiece_11 : decode cX8_ofPiece 11 = .ok (.tableswitch 94 0 8 #[49, 49, 56, 56, 56, 56, 68, 74, 83], 49) := by decide +kernel
theorem dX8_ofPiece_60 : decode cX8_ofPiece 60 = .ok (.aload_n 0, 1) := by decide +kernel
theorem dX8_ofPiece_61 : decode cX8_ofPiece 61 = .ok (.iload_n 1, 1) := by decide +kernel
theorem dX8_ofPiece_62 : decode cX8_ofPiece 62 = .ok (.iload_n 2, 1) := by decide +kernel
theorem dX8_ofPiece_63 : decode cX8_ofPiece 63 = .ok (.invokevirtual 68, 3) := by decide +kernel
theorem dX8_ofPiece_66 : decode cX8_ofPiece 66 = .ok (.ireturn, 1) := by decide +kernel
theorem dX8_ofPiece_67 : decode cX8_ofPiece 67 = .ok (.aload_n 0, 1) := by decide +kernel
theorem dX8_ofPiece_68 : decode cX8_ofPiece 68 = .ok (.iload_n 1, 1) := by decide +kernel
theorem dX8_ofPiece_69 : decode cX8_ofPiece 69 = .ok (.invokevirtual 79, 3) := by decide +kernel
theorem dX8_ofPiece_72 : decode cX8_ofPiece 72 = .ok (.iload_n 2, 1) := by decide +kernel
theorem dX8_ofPiece_73 : decode cX8_ofPiece 73 = .ok (.iconst 2, 1) := by decide +kernel
theorem dX8_ofPiece_74 : decode cX8_ofPiece 74 = .ok (.isub, 1) := by decide +kernel
theorem dX8_ofPiece_75 : decode cX8_ofPiece 75 = .ok (.invokestatic 123, 3) := by decide +kernel
theorem dX8_ofPiece_78 : decode cX8_ofPiece 78 = .ok (.ireturn, 1) := by decide +kernel
theorem dX8_ofPiece_79 : decode cX8_ofPiece 79 = .ok (.aload_n 0, 1) := by decide +kernel
theorem dX8_ofPiece_80 : decode cX8_ofPiece 80 = .ok (.iload_n 1, 1) := by decide +kernel
theorem dX8_ofPiece_81 : decode cX8_ofPiece 81 = .ok (.invokevirtual 166, 3) := by decide +kernel
theorem dX8_ofPiece_84 : decode cX8_ofPiece 84 = .ok (.ireturn, 1) := by decide +kernel
theorem dX8_ofPiece_85 : decode cX8_ofPiece 85 = .ok (.aload_n 0, 1) := by decide +kernel
theorem dX8_ofPiece_86 : decode cX8_ofPiece 86 = .ok (.iload_n 1, 1) := by decide +kernel
theorem dX8_ofPiece_87 : decode cX8_ofPiece 87 = .ok (.invokevirtual 120, 3) := by decide +kernel
theorem dX8_ofPiece_90 : decode cX8_ofPiece 90 = .ok (.ldc 169, 2) := by decide +kernel
theorem dX8_ofPiece_92 : decode cX8_ofPiece 92 = .ok (.iadd, 1) := by decide +kernel
theorem dX8_ofPiece_93 : decode cX8_ofPiece 93 = .ok (.ireturn, 1) := by decide +kernel
theorem dX8_ofPiece_94 : decode cX8_ofPiece 94 = .ok (.aload_n 0, 1) := by decide +kernel
theorem dX8_ofPiece_95 : decode cX8_ofPiece 95 = .ok (.invokevirtual 160, 3) := by decide +kernel
theorem dX8_ofPiece_98 : decode cX8_ofPiece 98 = .ok (.aload_n 0, 1) := by decide +kernel
theorem dX8_ofPiece_99 : decode cX8_ofPiece 99 = .ok (.getfield 53, 3) := by decide +kernel
theorem dX8_ofPiece_102 : decode cX8_ofPiece 102 = .ok (.iload_n 1, 1) := by decide +kernel
theorem dX8_ofPiece_103 : decode cX8_ofPiece 103 = .ok (.iaload, 1) := by decide +kernel
theorem dX8_ofPiece_104 : decode cX8_ofPiece 104 = .ok (.ireturn, 1) := by decide +kernel
theorem dX8_ofPiece_105 : decode cX8_ofPiece 105 = .ok (.bipush (-2), 2) := by decide +kernel
theorem dX8_ofPiece_107 : decode cX8_ofPiece 107 = .ok (.ireturn, 1) := by decide +kernel
set_option maxRecDepth 20000 in
theorem ggX8_ofWord_X8_isWord : GoodIn wsX8_ofWord wsX8_isWord := goodIn_r _ [6, 7, 8, 9, 5, 10, 58, 59, 60, 61, 62, 63, 64, 65, 66, 67, 68, 69, 70, 71, 72, 73, 74, 75] (by decide +kernel) (by decide +kernel)
set_option maxRecDepth 20000 in
theorem gX8_ofWord_X8_isWord : GoodIn wsX8_ofWord (wsV RX8 154 RX8 yX8_isWord wsX8_isWord) := goodIn_app (goodIn_of _ (by decide +kernel)) ggX8_ofWord_X8_isWord
set_option maxRecDepth 20000 in
theorem ggX8_ofWord_X8_findCut : GoodIn wsX8_ofWord wsX8_findCut := goodIn_r _ [14, 15, 1, 16, 17, 18, 19, 5, 20, 7, 21, 22, 23, 24, 25, 26, 27, 28, 29, 30, 31, 32, 33, 34, 35, 36, 37, 38, 39, 40, 41, 42, 43, 44, 58, 59, 60, 61, 62, 63, 64, 65, 66, 67, 68, 69, 70, 71, 72, 73, 74, 75] (by decide +kernel) (by decide +kernel)
set_option maxRecDepth 20000 in
theorem gX8_ofWord_X8_findCut : GoodIn wsX8_ofWord (wsV RX8 95 RX8 yX8_findCut wsX8_findCut) := goodIn_app (goodIn_of _ (by decide +kernel)) ggX8_ofWord_X8_findCut
set_option maxRecDepth 20000 in
theorem ggX8_ofWord_X8_wordPart : GoodIn wsX8_ofWord wsX8_wordPart := goodIn_r _ [20, 7, 58, 59, 60, 61, 62, 63, 64, 65, 66, 67, 68, 69, 70, 71, 72, 73, 74, 75] (by decide +kernel) (by decide +kernel)
set_option maxRecDepth 20000 in
theorem gX8_ofWord_X8_wordPart : GoodIn wsX8_ofWord (wsV RX8 72 RX8 yX8_wordPart wsX8_wordPart) := goodIn_app (goodIn_of _ (by decide +kernel)) ggX8_ofWord_X8_wordPart
set_option maxRecDepth 20000 in
theorem ggX8_ofWord_X8_unseenIn : GoodIn wsX8_ofWord wsX8_unseenIn := goodIn_r _ [48, 16, 17, 18, 19, 5, 20, 7, 29, 30, 31, 32, 33, 34, 35, 36, 37, 38, 39, 40, 41, 42, 43, 44, 58, 59, 60, 61, 62, 63, 64, 65, 66, 67, 68, 69, 70, 71, 72, 73, 74, 75] (by decide +kernel) (by decide +kernel)
set_option maxRecDepth 20000 in
theorem gX8_ofWord_X8_unseenIn : GoodIn wsX8_ofWord (wsV RX8 99 RX8 yX8_unseenIn wsX8_unseenIn) := goodIn_app (goodIn_of _ (by decide +kernel)) ggX8_ofWord_X8_unseenIn
set_option maxRecDepth 20000 in
theorem ggX8_ofWord_X8_costOf : GoodIn wsX8_ofWord wsX8_costOf := goodIn_r _ [52, 1, 11, 12, 13, 5, 14, 15, 16, 17, 18, 19, 20, 7, 21, 22, 23, 24, 25, 26, 27, 28, 29, 30, 31, 32, 33, 34, 35, 36, 37, 38, 39, 40, 41, 42, 43, 44, 45, 46, 47, 48, 58, 59, 60, 61, 62, 63, 64, 65, 66, 67, 68, 69, 70, 71, 72, 73, 74, 75] (by decide +kernel) (by decide +kernel)
set_option maxRecDepth 20000 in
theorem gX8_ofWord_X8_costOf : GoodIn wsX8_ofWord (wsV RX8 102 RX8 yX8_costOf wsX8_costOf) := goodIn_app (goodIn_of _ (by decide +kernel)) ggX8_ofWord_X8_costOf
set_option maxRecDepth 20000 in
theorem ggX8_ofWord_X8_cutsOf : GoodIn wsX8_ofWord wsX8_cutsOf := goodIn_r _ [56, 57, 17, 18, 19, 5, 20, 7, 21, 22, 23, 24, 25, 26, 27, 28, 29, 30, 31, 32, 33, 34, 35, 36, 37, 38, 39, 40, 41, 42, 43, 44, 58, 59, 60, 61, 62, 63, 64, 65, 66, 67, 68, 69, 70, 71, 72, 73, 74, 75] (by decide +kernel) (by decide +kernel)
set_option maxRecDepth 20000 in
theorem gX8_ofWord_X8_cutsOf : GoodIn wsX8_ofWord (wsV RX8 170 RX8 yX8_cutsOf wsX8_cutsOf) := goodIn_app (goodIn_of _ (by decide +kernel)) ggX8_ofWord_X8_cutsOf
theorem dX8_ofWord_0 : decode cX8_ofWord 0 = .ok (.aload_n 0, 1) := by decide +kernel
theorem dX8_ofWord_1 : decode cX8_ofWord 1 = .ok (.iload_n 1, 1) := by decide +kernel
theorem dX8_ofWord_2 : decode cX8_ofWord 2 = .ok (.invokevirtual 154, 3) := by decide +kernel
theorem dX8_ofWord_5 : decode cX8_ofWord 5 = .ok (.ifCond .ne 5, 3) := by decide +kernel
theorem dX8_ofWord_8 : decode cX8_ofWord 8 = .ok (.iconst (-1), 1) := by decide +kernel
theorem dX8_ofWord_9 : decode cX8_ofWord 9 = .ok (.ireturn, 1) := by decide +kernel
theorem dX8_ofWord_10 : decode cX8_ofWord 10 = .ok (.aload_n 0, 1) := by decide +kernel
theorem dX8_ofWord_11 : decode cX8_ofWord 11 = .ok (.iload_n 1, 1) := by decide +kernel
theorem dX8_ofWord_12 : decode cX8_ofWord 12 = .ok (.invokevirtual 95, 3) := by decide +kernel
theorem dX8_ofWord_15 : decode cX8_ofWord 15 = .ok (.iload_n 2, 1) := by decide +kernel
theorem dX8_ofWord_16 : decode cX8_ofWord 16 = .ok (.tableswitch 72 0 5 #[40, 40, 47, 54, 60, 66], 40) := by decide +kernel
theorem dX8_ofWord_56 : decode cX8_ofWord 56 = .ok (.aload_n 0, 1) := by decide +kernel
theorem dX8_ofWord_57 : decode cX8_ofWord 57 = .ok (.iload_n 1, 1) := by decide +kernel
theorem dX8_ofWord_58 : decode cX8_ofWord 58 = .ok (.iload_n 2, 1) := by decide +kernel
theorem dX8_ofWord_59 : decode cX8_ofWord 59 = .ok (.invokevirtual 72, 3) := by decide +kernel
theorem dX8_ofWord_62 : decode cX8_ofWord 62 = .ok (.ireturn, 1) := by decide +kernel
theorem dX8_ofWord_63 : decode cX8_ofWord 63 = .ok (.aload_n 0, 1) := by decide +kernel
theorem dX8_ofWord_64 : decode cX8_ofWord 64 = .ok (.getfield 32, 3) := by decide +kernel
theorem dX8_ofWord_67 : decode cX8_ofWord 67 = .ok (.iconst 0, 1) := by decide +kernel
theorem dX8_ofWord_68 : decode cX8_ofWord 68 = .ok (.iaload, 1) := by decide +kernel
theorem dX8_ofWord_69 : decode cX8_ofWord 69 = .ok (.ireturn, 1) := by decide +kernel
theorem dX8_ofWord_70 : decode cX8_ofWord 70 = .ok (.aload_n 0, 1) := by decide +kernel
theorem dX8_ofWord_71 : decode cX8_ofWord 71 = .ok (.iload_n 1, 1) := by decide +kernel
theorem dX8_ofWord_72 : decode cX8_ofWord 72 = .ok (.invokevirtual 99, 3) := by decide +kernel
theorem dX8_ofWord_75 : decode cX8_ofWord 75 = .ok (.ireturn, 1) := by decide +kernel
theorem dX8_ofWord_76 : decode cX8_ofWord 76 = .ok (.aload_n 0, 1) := by decide +kernel
theorem dX8_ofWord_77 : decode cX8_ofWord 77 = .ok (.iload_n 1, 1) := by decide +kernel
theorem dX8_ofWord_78 : decode cX8_ofWord 78 = .ok (.invokevirtual 102, 3) := by decide +kernel
theorem dX8_ofWord_81 : decode cX8_ofWord 81 = .ok (.ireturn, 1) := by decide +kernel
theorem dX8_ofWord_82 : decode cX8_ofWord 82 = .ok (.aload_n 0, 1) := by decide +kernel
theorem dX8_ofWord_83 : decode cX8_ofWord 83 = .ok (.iload_n 1, 1) := by decide +kernel
theorem dX8_ofWord_84 : decode cX8_ofWord 84 = .ok (.invokevirtual 170, 3) := by decide +kernel
theorem dX8_ofWord_87 : decode cX8_ofWord 87 = .ok (.ireturn, 1) := by decide +kernel
theorem dX8_ofWord_88 : decode cX8_ofWord 88 = .ok (.bipush (-2), 2) := by decide +kernel
theorem dX8_ofWord_90 : decode cX8_ofWord 90 = .ok (.ireturn, 1) := by decide +kernel
set_option maxRecDepth 20000 in
theorem ggX8_letter_X8_isWord : GoodIn wsX8_letter wsX8_isWord := goodIn_r _ [5, 6, 7, 8, 4, 9, 14, 15, 16, 17, 18, 19, 20, 21, 22, 23, 24, 25, 26, 27, 28, 29, 30, 31] (by decide +kernel) (by decide +kernel)
set_option maxRecDepth 20000 in
theorem gX8_letter_X8_isWord : GoodIn wsX8_letter (wsV RX8 154 RX8 yX8_isWord wsX8_isWord) := goodIn_app (goodIn_of _ (by decide +kernel)) ggX8_letter_X8_isWord
set_option maxRecDepth 20000 in
theorem ggX8_letter_X8_wordPart : GoodIn wsX8_letter wsX8_wordPart := goodIn_r _ [13, 6, 14, 15, 16, 17, 18, 19, 20, 21, 22, 23, 24, 25, 26, 27, 28, 29, 30, 31] (by decide +kernel) (by decide +kernel)
set_option maxRecDepth 20000 in
theorem gX8_letter_X8_wordPart : GoodIn wsX8_letter (wsV RX8 72 RX8 yX8_wordPart wsX8_wordPart) := goodIn_app (goodIn_of _ (by decide +kernel)) ggX8_letter_X8_wordPart
set_option maxRecDepth 20000 in
theorem ggX8_letter_X8_within : GoodIn wsX8_letter wsX8_within := goodIn_r _ [9] (by decide +kernel) (by decide +kernel)
set_option maxRecDepth 20000 in
theorem gX8_letter_X8_within : GoodIn wsX8_letter (va_wsS RX8 64 yX8_within wsX8_within) := goodIn_app (goodIn_of _ (by decide +kernel)) ggX8_letter_X8_within
theorem dX8_letter_0 : decode cX8_letter 0 = .ok (.aload_n 0, 1) := by decide +kernel
theorem dX8_letter_1 : decode cX8_letter 1 = .ok (.iload_n 1, 1) := by decide +kernel
theorem dX8_letter_2 : decode cX8_letter 2 = .ok (.invokevirtual 154, 3) := by decide +kernel
theorem dX8_letter_5 : decode cX8_letter 5 = .ok (.ifCond .eq 32, 3) := by decide +kernel
theorem dX8_letter_8 : decode cX8_letter 8 = .ok (.iload_n 2, 1) := by decide +kernel
theorem dX8_letter_9 : decode cX8_letter 9 = .ok (.iconst 0, 1) := by decide +kernel
theorem dX8_letter_10 : decode cX8_letter 10 = .ok (.aload_n 0, 1) := by decide +kernel
theorem dX8_letter_11 : decode cX8_letter 11 = .ok (.iload_n 1, 1) := by decide +kernel
theorem dX8_letter_12 : decode cX8_letter 12 = .ok (.iconst 0, 1) := by decide +kernel
theorem dX8_letter_13 : decode cX8_letter 13 = .ok (.invokevirtual 72, 3) := by decide +kernel
theorem dX8_letter_16 : decode cX8_letter 16 = .ok (.iconst 1, 1) := by decide +kernel
theorem dX8_letter_17 : decode cX8_letter 17 = .ok (.isub, 1) := by decide +kernel
theorem dX8_letter_18 : decode cX8_letter 18 = .ok (.invokestatic 64, 3) := by decide +kernel
theorem dX8_letter_21 : decode cX8_letter 21 = .ok (.ifCond .eq 16, 3) := by decide +kernel
theorem dX8_letter_24 : decode cX8_letter 24 = .ok (.aload_n 0, 1) := by decide +kernel
theorem dX8_letter_25 : decode cX8_letter 25 = .ok (.iload_n 1, 1) := by decide +kernel
theorem dX8_letter_26 : decode cX8_letter 26 = .ok (.iconst 2, 1) := by decide +kernel
theorem dX8_letter_27 : decode cX8_letter 27 = .ok (.iload_n 2, 1) := by decide +kernel
theorem dX8_letter_28 : decode cX8_letter 28 = .ok (.iadd, 1) := by decide +kernel
theorem dX8_letter_29 : decode cX8_letter 29 = .ok (.invokevirtual 72, 3) := by decide +kernel
theorem dX8_letter_32 : decode cX8_letter 32 = .ok (.iconst 1, 1) := by decide +kernel
theorem dX8_letter_33 : decode cX8_letter 33 = .ok (.isub, 1) := by decide +kernel
theorem dX8_letter_34 : decode cX8_letter 34 = .ok (.goto 4, 3) := by decide +kernel
theorem dX8_letter_37 : decode cX8_letter 37 = .ok (.iconst (-1), 1) := by decide +kernel
theorem dX8_letter_38 : decode cX8_letter 38 = .ok (.ireturn, 1) := by decide +kernel
set_option maxRecDepth 20000 in
theorem ggX8_product_X8_isWord : GoodIn wsX8_product wsX8_isWord := goodIn_r _ [9, 10, 11, 12, 8, 13, 53, 54, 55, 56, 57, 58, 59, 60, 61, 62, 63, 64, 65, 66, 67, 68, 69, 70] (by decide +kernel) (by decide +kernel)
set_option maxRecDepth 20000 in
theorem gX8_product_X8_isWord : GoodIn wsX8_product (wsV RX8 154 RX8 yX8_isWord wsX8_isWord) := goodIn_app (goodIn_of _ (by decide +kernel)) ggX8_product_X8_isWord
set_option maxRecDepth 20000 in
theorem ggX8_product_X8_within : GoodIn wsX8_product wsX8_within := goodIn_r _ [13] (by decide +kernel) (by decide +kernel)
set_option maxRecDepth 20000 in
theorem gX8_product_X8_within : GoodIn wsX8_product (va_wsS RX8 64 yX8_within wsX8_within) := goodIn_app (goodIn_of _ (by decide +kernel)) ggX8_product_X8_within
set_option maxRecDepth 20000 in
theorem ggX8_product_X8_findCut : GoodIn wsX8_product wsX8_findCut := goodIn_r _ [17, 4, 18, 19, 20, 21, 22, 8, 23, 10, 24, 25, 26, 27, 28, 29, 30, 31, 32, 33, 34, 35, 36, 37, 38, 39, 40, 41, 42, 43, 44, 45, 46, 47, 53, 54, 55, 56, 57, 58, 59, 60, 61, 62, 63, 64, 65, 66, 67, 68, 69, 70] (by decide +kernel) (by decide +kernel)
set_option maxRecDepth 20000 in
theorem gX8_product_X8_findCut : GoodIn wsX8_product (wsV RX8 95 RX8 yX8_findCut wsX8_findCut) := goodIn_app (goodIn_of _ (by decide +kernel)) ggX8_product_X8_findCut
set_option maxRecDepth 20000 in
theorem ggX8_product_X8_findTotals : GoodIn wsX8_product wsX8_findTotals := goodIn_r _ [51, 52, 3, 20, 21, 22, 8, 23, 10, 24, 25, 26, 27, 28, 29, 30, 31, 32, 33, 34, 35, 36, 37, 38, 39, 40, 41, 42, 43, 44, 45, 46, 47, 53, 54, 55, 56, 57, 58, 59, 60, 61, 62, 63, 64, 65, 66, 67, 68, 69, 70] (by decide +kernel) (by decide +kernel)
set_option maxRecDepth 20000 in
theorem gX8_product_X8_findTotals : GoodIn wsX8_product (wsV RX8 107 RX8 yX8_findTotals wsX8_findTotals) := goodIn_app (goodIn_of _ (by decide +kernel)) ggX8_product_X8_findTotals
theorem dX8_product_0 : decode cX8_product 0 = .ok (.aload_n 0, 1) := by decide +kernel
theorem dX8_product_1 : decode cX8_product 1 = .ok (.iload_n 1, 1) := by decide +kernel
theorem dX8_product_2 : decode cX8_product 2 = .ok (.invokevirtual 154, 3) := by decide +kernel
theorem dX8_product_5 : decode cX8_product 5 = .ok (.ifCond .eq 12, 3) := by decide +kernel
theorem dX8_product_8 : decode cX8_product 8 = .ok (.iload_n 2, 1) := by decide +kernel
theorem dX8_product_9 : decode cX8_product 9 = .ok (.iconst 0, 1) := by decide +kernel
theorem dX8_product_10 : decode cX8_product 10 = .ok (.iconst 1, 1) := by decide +kernel
theorem dX8_product_11 : decode cX8_product 11 = .ok (.invokestatic 64, 3) := by decide +kernel
theorem dX8_product_14 : decode cX8_product 14 = .ok (.ifCond .ne 21, 3) := by decide +kernel
theorem dX8_product_17 : decode cX8_product 17 = .ok (.aload_n 0, 1) := by decide +kernel
theorem dX8_product_18 : decode cX8_product 18 = .ok (.iload_n 1, 1) := by decide +kernel
theorem dX8_product_19 : decode cX8_product 19 = .ok (.invokevirtual 154, 3) := by decide +kernel
theorem dX8_product_22 : decode cX8_product 22 = .ok (.ifCond .eq 9, 3) := by decide +kernel
theorem dX8_product_25 : decode cX8_product 25 = .ok (.ldc2_w 173, 3) := by decide +kernel
theorem dX8_product_28 : decode cX8_product 28 = .ok (.goto 6, 3) := by decide +kernel
theorem dX8_product_31 : decode cX8_product 31 = .ok (.ldc2_w 175, 3) := by decide +kernel
theorem dX8_product_34 : decode cX8_product 34 = .ok (.lreturn, 1) := by decide +kernel
theorem dX8_product_35 : decode cX8_product 35 = .ok (.aload_n 0, 1) := by decide +kernel
theorem dX8_product_36 : decode cX8_product 36 = .ok (.iload_n 1, 1) := by decide +kernel
theorem dX8_product_37 : decode cX8_product 37 = .ok (.invokevirtual 95, 3) := by decide +kernel
theorem dX8_product_40 : decode cX8_product 40 = .ok (.aload_n 0, 1) := by decide +kernel
theorem dX8_product_41 : decode cX8_product 41 = .ok (.iload_n 1, 1) := by decide +kernel
theorem dX8_product_42 : decode cX8_product 42 = .ok (.invokevirtual 107, 3) := by decide +kernel
theorem dX8_product_45 : decode cX8_product 45 = .ok (.iload_n 2, 1) := by decide +kernel
theorem dX8_product_46 : decode cX8_product 46 = .ok (.ifCond .ne 12, 3) := by decide +kernel
theorem dX8_product_49 : decode cX8_product 49 = .ok (.aload_n 0, 1) := by decide +kernel
theorem dX8_product_50 : decode cX8_product 50 = .ok (.getfield 41, 3) := by decide +kernel
theorem dX8_product_53 : decode cX8_product 53 = .ok (.iconst 0, 1) := by decide +kernel
theorem dX8_product_54 : decode cX8_product 54 = .ok (.laload, 1) := by decide +kernel
theorem dX8_product_55 : decode cX8_product 55 = .ok (.goto 9, 3) := by decide +kernel
theorem dX8_product_58 : decode cX8_product 58 = .ok (.aload_n 0, 1) := by decide +kernel
theorem dX8_product_59 : decode cX8_product 59 = .ok (.getfield 28, 3) := by decide +kernel
theorem dX8_product_62 : decode cX8_product 62 = .ok (.iconst 0, 1) := by decide +kernel
theorem dX8_product_63 : decode cX8_product 63 = .ok (.laload, 1) := by decide +kernel
theorem dX8_product_64 : decode cX8_product 64 = .ok (.lreturn, 1) := by decide +kernel
set_option maxRecDepth 20000 in
theorem ggX8_part_X8_isWord : GoodIn wsX8_part wsX8_isWord := goodIn_r _ [7, 8, 9, 10, 6, 11, 45, 46, 47, 48, 49, 50, 51, 52, 53, 54, 55, 56, 57, 58, 59, 60, 61, 62] (by decide +kernel) (by decide +kernel)
set_option maxRecDepth 20000 in
theorem gX8_part_X8_isWord : GoodIn wsX8_part (wsV RX8 154 RX8 yX8_isWord wsX8_isWord) := goodIn_app (goodIn_of _ (by decide +kernel)) ggX8_part_X8_isWord
set_option maxRecDepth 20000 in
theorem ggX8_part_X8_findCut : GoodIn wsX8_part wsX8_findCut := goodIn_r _ [15, 16, 1, 2, 17, 18, 19, 6, 20, 8, 21, 22, 23, 24, 25, 26, 27, 28, 29, 30, 31, 32, 33, 34, 35, 36, 37, 38, 39, 40, 41, 42, 43, 44, 45, 46, 47, 48, 49, 50, 51, 52, 53, 54, 55, 56, 57, 58, 59, 60, 61, 62] (by decide +kernel) (by decide +kernel)
set_option maxRecDepth 20000 in
theorem gX8_part_X8_findCut : GoodIn wsX8_part (wsV RX8 95 RX8 yX8_findCut wsX8_findCut) := goodIn_app (goodIn_of _ (by decide +kernel)) ggX8_part_X8_findCut
set_option maxRecDepth 20000 in
theorem ggX8_part_X8_within : GoodIn wsX8_part wsX8_within := goodIn_r _ [11] (by decide +kernel) (by decide +kernel)
set_option maxRecDepth 20000 in
theorem gX8_part_X8_within : GoodIn wsX8_part (va_wsS RX8 64 yX8_within wsX8_within) := goodIn_app (goodIn_of _ (by decide +kernel)) ggX8_part_X8_within
set_option maxRecDepth 20000 in
theorem ggX8_part_X8_textIn : GoodIn wsX8_part wsX8_textIn := goodIn_r _ [32, 17, 18, 19, 6, 20, 8, 45, 46, 47, 48, 49, 50, 51, 52, 53, 54, 55, 56, 57, 58, 59, 60, 61, 62] (by decide +kernel) (by decide +kernel)
set_option maxRecDepth 20000 in
theorem gX8_part_X8_textIn : GoodIn wsX8_part (wsV RX8 82 RX8 yX8_textIn wsX8_textIn) := goodIn_app (goodIn_of _ (by decide +kernel)) ggX8_part_X8_textIn
set_option maxRecDepth 20000 in
theorem ggX8_part_X8_pieceOf : GoodIn wsX8_part wsX8_pieceOf := goodIn_r _ [36, 8, 37, 38, 39, 6, 40, 41, 42, 43, 44, 45, 46, 47, 48, 49, 50, 51, 52, 53, 54, 55, 56, 57, 58, 59, 60, 61, 62] (by decide +kernel) (by decide +kernel)
set_option maxRecDepth 20000 in
theorem gX8_part_X8_pieceOf : GoodIn wsX8_part (wsV RX8 86 RX8 yX8_pieceOf wsX8_pieceOf) := goodIn_app (goodIn_of _ (by decide +kernel)) ggX8_part_X8_pieceOf
theorem dX8_part_0 : decode cX8_part 0 = .ok (.aload_n 0, 1) := by decide +kernel
theorem dX8_part_1 : decode cX8_part 1 = .ok (.iload_n 1, 1) := by decide +kernel
theorem dX8_part_2 : decode cX8_part 2 = .ok (.invokevirtual 154, 3) := by decide +kernel
theorem dX8_part_5 : decode cX8_part 5 = .ok (.ifCond .ne 5, 3) := by decide +kernel
theorem dX8_part_8 : decode cX8_part 8 = .ok (.iconst (-1), 1) := by decide +kernel
theorem dX8_part_9 : decode cX8_part 9 = .ok (.ireturn, 1) := by decide +kernel
theorem dX8_part_10 : decode cX8_part 10 = .ok (.aload_n 0, 1) := by decide +kernel
theorem dX8_part_11 : decode cX8_part 11 = .ok (.iload_n 1, 1) := by decide +kernel
theorem dX8_part_12 : decode cX8_part 12 = .ok (.invokevirtual 95, 3) := by decide +kernel
theorem dX8_part_15 : decode cX8_part 15 = .ok (.iload_n 2, 1) := by decide +kernel
theorem dX8_part_16 : decode cX8_part 16 = .ok (.iconst 0, 1) := by decide +kernel
theorem dX8_part_17 : decode cX8_part 17 = .ok (.aload_n 0, 1) := by decide +kernel
theorem dX8_part_18 : decode cX8_part 18 = .ok (.getfield 32, 3) := by decide +kernel
theorem dX8_part_21 : decode cX8_part 21 = .ok (.iconst 0, 1) := by decide +kernel
theorem dX8_part_22 : decode cX8_part 22 = .ok (.iaload, 1) := by decide +kernel
theorem dX8_part_23 : decode cX8_part 23 = .ok (.iconst 1, 1) := by decide +kernel
theorem dX8_part_24 : decode cX8_part 24 = .ok (.isub, 1) := by decide +kernel
theorem dX8_part_25 : decode cX8_part 25 = .ok (.invokestatic 64, 3) := by decide +kernel
theorem dX8_part_28 : decode cX8_part 28 = .ok (.ifCond .ne 5, 3) := by decide +kernel
theorem dX8_part_31 : decode cX8_part 31 = .ok (.iconst (-1), 1) := by decide +kernel
theorem dX8_part_32 : decode cX8_part 32 = .ok (.ireturn, 1) := by decide +kernel
theorem dX8_part_33 : decode cX8_part 33 = .ok (.iconst 0, 1) := by decide +kernel
theorem dX8_part_34 : decode cX8_part 34 = .ok (.istore 4, 2) := by decide +kernel
theorem dX8_part_36 : decode cX8_part 36 = .ok (.iconst 0, 1) := by decide +kernel
theorem dX8_part_37 : decode cX8_part 37 = .ok (.istore 5, 2) := by decide +kernel
theorem dX8_part_39 : decode cX8_part 39 = .ok (.iload 5, 2) := by decide +kernel
theorem dX8_part_41 : decode cX8_part 41 = .ok (.iload_n 2, 1) := by decide +kernel
theorem dX8_part_42 : decode cX8_part 42 = .ok (.if_icmp .ge 21, 3) := by decide +kernel
theorem dX8_part_45 : decode cX8_part 45 = .ok (.iload 4, 2) := by decide +kernel
theorem dX8_part_47 : decode cX8_part 47 = .ok (.aload_n 0, 1) := by decide +kernel
theorem dX8_part_48 : decode cX8_part 48 = .ok (.getfield 35, 3) := by decide +kernel
theorem dX8_part_51 : decode cX8_part 51 = .ok (.iload 4, 2) := by decide +kernel
theorem dX8_part_53 : decode cX8_part 53 = .ok (.iaload, 1) := by decide +kernel
theorem dX8_part_54 : decode cX8_part 54 = .ok (.iadd, 1) := by decide +kernel
theorem dX8_part_55 : decode cX8_part 55 = .ok (.istore 4, 2) := by decide +kernel
theorem dX8_part_57 : decode cX8_part 57 = .ok (.iinc 5 1, 3) := by decide +kernel
theorem dX8_part_60 : decode cX8_part 60 = .ok (.goto (-21), 3) := by decide +kernel
theorem dX8_part_63 : decode cX8_part 63 = .ok (.iload_n 3, 1) := by decide +kernel
theorem dX8_part_64 : decode cX8_part 64 = .ok (.ifCond .ne 24, 3) := by decide +kernel
theorem dX8_part_67 : decode cX8_part 67 = .ok (.aload_n 0, 1) := by decide +kernel
theorem dX8_part_68 : decode cX8_part 68 = .ok (.aload_n 0, 1) := by decide +kernel
theorem dX8_part_69 : decode cX8_part 69 = .ok (.iload_n 1, 1) := by decide +kernel
theorem dX8_part_70 : decode cX8_part 70 = .ok (.iload 4, 2) := by decide +kernel
theorem dX8_part_72 : decode cX8_part 72 = .ok (.aload_n 0, 1) := by decide +kernel
theorem dX8_part_73 : decode cX8_part 73 = .ok (.getfield 35, 3) := by decide +kernel
theorem dX8_part_76 : decode cX8_part 76 = .ok (.iload 4, 2) := by decide +kernel
theorem dX8_part_78 : decode cX8_part 78 = .ok (.iaload, 1) := by decide +kernel
theorem dX8_part_79 : decode cX8_part 79 = .ok (.invokevirtual 82, 3) := by decide +kernel
theorem dX8_part_82 : decode cX8_part 82 = .ok (.invokevirtual 86, 3) := by decide +kernel
theorem dX8_part_85 : decode cX8_part 85 = .ok (.goto 30, 3) := by decide +kernel
theorem dX8_part_88 : decode cX8_part 88 = .ok (.iload_n 3, 1) := by decide +kernel
theorem dX8_part_89 : decode cX8_part 89 = .ok (.iconst 1, 1) := by decide +kernel
theorem dX8_part_90 : decode cX8_part 90 = .ok (.if_icmp .ne 8, 3) := by decide +kernel
theorem dX8_part_93 : decode cX8_part 93 = .ok (.iload 4, 2) := by decide +kernel
theorem dX8_part_95 : decode cX8_part 95 = .ok (.goto 20, 3) := by decide +kernel
theorem dX8_part_98 : decode cX8_part 98 = .ok (.iload_n 3, 1) := by decide +kernel
theorem dX8_part_99 : decode cX8_part 99 = .ok (.iconst 2, 1) := by decide +kernel
theorem dX8_part_100 : decode cX8_part 100 = .ok (.if_icmp .ne 13, 3) := by decide +kernel
theorem dX8_part_103 : decode cX8_part 103 = .ok (.aload_n 0, 1) := by decide +kernel
theorem dX8_part_104 : decode cX8_part 104 = .ok (.getfield 35, 3) := by decide +kernel
theorem dX8_part_107 : decode cX8_part 107 = .ok (.iload 4, 2) := by decide +kernel
theorem dX8_part_109 : decode cX8_part 109 = .ok (.iaload, 1) := by decide +kernel
theorem dX8_part_110 : decode cX8_part 110 = .ok (.goto 5, 3) := by decide +kernel
theorem dX8_part_113 : decode cX8_part 113 = .ok (.bipush (-2), 2) := by decide +kernel
theorem dX8_part_115 : decode cX8_part 115 = .ok (.ireturn, 1) := by decide +kernel
set_option maxRecDepth 20000 in
theorem ggX8_share_X8_isWord : GoodIn wsX8_share wsX8_isWord := goodIn_r _ [5, 6, 7, 8, 4, 9, 53, 54, 55, 56, 57, 58, 59, 60, 61, 62, 63, 64, 65, 66, 67, 68, 69, 70] (by decide +kernel) (by decide +kernel)
set_option maxRecDepth 20000 in
theorem gX8_share_X8_isWord : GoodIn wsX8_share (wsV RX8 154 RX8 yX8_isWord wsX8_isWord) := goodIn_app (goodIn_of _ (by decide +kernel)) ggX8_share_X8_isWord
set_option maxRecDepth 20000 in
theorem ggX8_share_X8_isPiece : GoodIn wsX8_share wsX8_isPiece := goodIn_r _ [13, 6, 7, 8, 4, 9, 53, 54, 55, 56, 57, 58, 59, 60, 61, 62, 63, 64, 65, 66, 67, 68, 69, 70] (by decide +kernel) (by decide +kernel)
set_option maxRecDepth 20000 in
theorem gX8_share_X8_isPiece : GoodIn wsX8_share (wsV RX8 150 RX8 yX8_isPiece wsX8_isPiece) := goodIn_app (goodIn_of _ (by decide +kernel)) ggX8_share_X8_isPiece
set_option maxRecDepth 20000 in
theorem ggX8_share_X8_findTotals : GoodIn wsX8_share wsX8_findTotals := goodIn_r _ [17, 18, 19, 20, 21, 22, 4, 23, 6, 24, 25, 26, 27, 28, 29, 30, 31, 32, 33, 34, 35, 36, 37, 38, 39, 40, 41, 42, 43, 44, 45, 46, 47, 53, 54, 55, 56, 57, 58, 59, 60, 61, 62, 63, 64, 65, 66, 67, 68, 69, 70] (by decide +kernel) (by decide +kernel)
set_option maxRecDepth 20000 in
theorem gX8_share_X8_findTotals : GoodIn wsX8_share (wsV RX8 107 RX8 yX8_findTotals wsX8_findTotals) := goodIn_app (goodIn_of _ (by decide +kernel)) ggX8_share_X8_findTotals
set_option maxRecDepth 20000 in
theorem ggX8_share_X8_shareIn : GoodIn wsX8_share wsX8_shareIn := goodIn_r _ [51, 18, 19, 52, 44, 45, 46, 4, 47, 6, 40, 41, 42, 43, 20, 21, 22, 23, 32, 33, 34, 35, 53, 54, 55, 56, 57, 58, 59, 60, 61, 62, 63, 64, 65, 66, 67, 68, 69, 70] (by decide +kernel) (by decide +kernel)
set_option maxRecDepth 20000 in
theorem gX8_share_X8_shareIn : GoodIn wsX8_share (wsV RX8 110 RX8 yX8_shareIn wsX8_shareIn) := goodIn_app (goodIn_of _ (by decide +kernel)) ggX8_share_X8_shareIn
theorem dX8_share_0 : decode cX8_share 0 = .ok (.aload_n 0, 1) := by decide +kernel
theorem dX8_share_1 : decode cX8_share 1 = .ok (.iload_n 1, 1) := by decide +kernel
theorem dX8_share_2 : decode cX8_share 2 = .ok (.invokevirtual 154, 3) := by decide +kernel
theorem dX8_share_5 : decode cX8_share 5 = .ok (.ifCond .eq 11, 3) := by decide +kernel
theorem dX8_share_8 : decode cX8_share 8 = .ok (.aload_n 0, 1) := by decide +kernel
theorem dX8_share_9 : decode cX8_share 9 = .ok (.iload_n 2, 1) := by decide +kernel
theorem dX8_share_10 : decode cX8_share 10 = .ok (.invokevirtual 150, 3) := by decide +kernel
theorem dX8_share_13 : decode cX8_share 13 = .ok (.ifCond .ne 5, 3) := by decide +kernel
theorem dX8_share_16 : decode cX8_share 16 = .ok (.iconst (-1), 1) := by decide +kernel
theorem dX8_share_17 : decode cX8_share 17 = .ok (.ireturn, 1) := by decide +kernel
theorem dX8_share_18 : decode cX8_share 18 = .ok (.aload_n 0, 1) := by decide +kernel
theorem dX8_share_19 : decode cX8_share 19 = .ok (.iload_n 1, 1) := by decide +kernel
theorem dX8_share_20 : decode cX8_share 20 = .ok (.invokevirtual 107, 3) := by decide +kernel
theorem dX8_share_23 : decode cX8_share 23 = .ok (.aload_n 0, 1) := by decide +kernel
theorem dX8_share_24 : decode cX8_share 24 = .ok (.iload_n 1, 1) := by decide +kernel
theorem dX8_share_25 : decode cX8_share 25 = .ok (.iload_n 2, 1) := by decide +kernel
theorem dX8_share_26 : decode cX8_share 26 = .ok (.invokevirtual 110, 3) := by decide +kernel
theorem dX8_share_29 : decode cX8_share 29 = .ok (.ireturn, 1) := by decide +kernel
set_option maxRecDepth 20000 in
theorem ggX8_count_X8_findCut : GoodIn wsX8_count wsX8_findCut := goodIn_r _ [9, 10, 2, 11, 12, 13, 14, 8, 15, 1, 16, 17, 18, 19, 20, 21, 22, 23, 24, 25, 26, 27, 28, 29, 30, 31, 32, 33, 34, 35, 36, 37, 38, 39, 44, 45, 46, 47, 48, 49, 50, 51, 52, 53, 54, 55, 56, 57, 58, 59, 60, 61] (by decide +kernel) (by decide +kernel)
set_option maxRecDepth 20000 in
theorem gX8_count_X8_findCut : GoodIn wsX8_count (wsV RX8 95 RX8 yX8_findCut wsX8_findCut) := goodIn_app (goodIn_of _ (by decide +kernel)) ggX8_count_X8_findCut
set_option maxRecDepth 20000 in
theorem ggX8_count_X8_wordPart : GoodIn wsX8_count wsX8_wordPart := goodIn_r _ [15, 1, 44, 45, 46, 47, 48, 49, 50, 51, 52, 53, 54, 55, 56, 57, 58, 59, 60, 61] (by decide +kernel) (by decide +kernel)
set_option maxRecDepth 20000 in
theorem gX8_count_X8_wordPart : GoodIn wsX8_count (wsV RX8 72 RX8 yX8_wordPart wsX8_wordPart) := goodIn_app (goodIn_of _ (by decide +kernel)) ggX8_count_X8_wordPart
set_option maxRecDepth 20000 in
theorem ggX8_count_X8_unseenIn : GoodIn wsX8_count wsX8_unseenIn := goodIn_r _ [43, 11, 12, 13, 14, 8, 15, 1, 24, 25, 26, 27, 28, 29, 30, 31, 32, 33, 34, 35, 36, 37, 38, 39, 44, 45, 46, 47, 48, 49, 50, 51, 52, 53, 54, 55, 56, 57, 58, 59, 60, 61] (by decide +kernel) (by decide +kernel)
set_option maxRecDepth 20000 in
theorem gX8_count_X8_unseenIn : GoodIn wsX8_count (wsV RX8 99 RX8 yX8_unseenIn wsX8_unseenIn) := goodIn_app (goodIn_of _ (by decide +kernel)) ggX8_count_X8_unseenIn
theorem dX8_count_0 : decode cX8_count 0 = .ok (.iconst 0, 1) := by decide +kernel
theorem dX8_count_1 : decode cX8_count 1 = .ok (.istore_n 2, 1) := by decide +kernel
theorem dX8_count_2 : decode cX8_count 2 = .ok (.iconst 0, 1) := by decide +kernel
theorem dX8_count_3 : decode cX8_count 3 = .ok (.istore_n 3, 1) := by decide +kernel
theorem dX8_count_4 : decode cX8_count 4 = .ok (.iconst 0, 1) := by decide +kernel
theorem dX8_count_5 : decode cX8_count 5 = .ok (.istore 4, 2) := by decide +kernel
theorem dX8_count_7 : decode cX8_count 7 = .ok (.iconst 0, 1) := by decide +kernel
theorem dX8_count_8 : decode cX8_count 8 = .ok (.istore 5, 2) := by decide +kernel
theorem dX8_count_10 : decode cX8_count 10 = .ok (.iload 5, 2) := by decide +kernel
theorem dX8_count_12 : decode cX8_count 12 = .ok (.aload_n 0, 1) := by decide +kernel
theorem dX8_count_13 : decode cX8_count 13 = .ok (.getfield 7, 3) := by decide +kernel
theorem dX8_count_16 : decode cX8_count 16 = .ok (.iconst 1, 1) := by decide +kernel
theorem dX8_count_17 : decode cX8_count 17 = .ok (.iaload, 1) := by decide +kernel
theorem dX8_count_18 : decode cX8_count 18 = .ok (.if_icmp .ge 69, 3) := by decide +kernel
theorem dX8_count_21 : decode cX8_count 21 = .ok (.aload_n 0, 1) := by decide +kernel
theorem dX8_count_22 : decode cX8_count 22 = .ok (.iload 5, 2) := by decide +kernel
theorem dX8_count_24 : decode cX8_count 24 = .ok (.invokevirtual 95, 3) := by decide +kernel
theorem dX8_count_27 : decode cX8_count 27 = .ok (.iload_n 2, 1) := by decide +kernel
theorem dX8_count_28 : decode cX8_count 28 = .ok (.aload_n 0, 1) := by decide +kernel
theorem dX8_count_29 : decode cX8_count 29 = .ok (.iload 5, 2) := by decide +kernel
theorem dX8_count_31 : decode cX8_count 31 = .ok (.iconst 0, 1) := by decide +kernel
theorem dX8_count_32 : decode cX8_count 32 = .ok (.invokevirtual 72, 3) := by decide +kernel
theorem dX8_count_35 : decode cX8_count 35 = .ok (.aload_n 0, 1) := by decide +kernel
theorem dX8_count_36 : decode cX8_count 36 = .ok (.iload 5, 2) := by decide +kernel
theorem dX8_count_38 : decode cX8_count 38 = .ok (.iconst 1, 1) := by decide +kernel
theorem dX8_count_39 : decode cX8_count 39 = .ok (.invokevirtual 72, 3) := by decide +kernel
theorem dX8_count_42 : decode cX8_count 42 = .ok (.imul, 1) := by decide +kernel
theorem dX8_count_43 : decode cX8_count 43 = .ok (.iadd, 1) := by decide +kernel
theorem dX8_count_44 : decode cX8_count 44 = .ok (.istore_n 2, 1) := by decide +kernel
theorem dX8_count_45 : decode cX8_count 45 = .ok (.iload_n 3, 1) := by decide +kernel
theorem dX8_count_46 : decode cX8_count 46 = .ok (.aload_n 0, 1) := by decide +kernel
theorem dX8_count_47 : decode cX8_count 47 = .ok (.getfield 32, 3) := by decide +kernel
theorem dX8_count_50 : decode cX8_count 50 = .ok (.iconst 0, 1) := by decide +kernel
theorem dX8_count_51 : decode cX8_count 51 = .ok (.iaload, 1) := by decide +kernel
theorem dX8_count_52 : decode cX8_count 52 = .ok (.aload_n 0, 1) := by decide +kernel
theorem dX8_count_53 : decode cX8_count 53 = .ok (.iload 5, 2) := by decide +kernel
theorem dX8_count_55 : decode cX8_count 55 = .ok (.iconst 1, 1) := by decide +kernel
theorem dX8_count_56 : decode cX8_count 56 = .ok (.invokevirtual 72, 3) := by decide +kernel
theorem dX8_count_59 : decode cX8_count 59 = .ok (.imul, 1) := by decide +kernel
theorem dX8_count_60 : decode cX8_count 60 = .ok (.iadd, 1) := by decide +kernel
theorem dX8_count_61 : decode cX8_count 61 = .ok (.istore_n 3, 1) := by decide +kernel
theorem dX8_count_62 : decode cX8_count 62 = .ok (.iload 4, 2) := by decide +kernel
theorem dX8_count_64 : decode cX8_count 64 = .ok (.aload_n 0, 1) := by decide +kernel
theorem dX8_count_65 : decode cX8_count 65 = .ok (.iload 5, 2) := by decide +kernel
theorem dX8_count_67 : decode cX8_count 67 = .ok (.invokevirtual 99, 3) := by decide +kernel
theorem dX8_count_70 : decode cX8_count 70 = .ok (.aload_n 0, 1) := by decide +kernel
theorem dX8_count_71 : decode cX8_count 71 = .ok (.iload 5, 2) := by decide +kernel
theorem dX8_count_73 : decode cX8_count 73 = .ok (.iconst 1, 1) := by decide +kernel
theorem dX8_count_74 : decode cX8_count 74 = .ok (.invokevirtual 72, 3) := by decide +kernel
theorem dX8_count_77 : decode cX8_count 77 = .ok (.imul, 1) := by decide +kernel
theorem dX8_count_78 : decode cX8_count 78 = .ok (.iadd, 1) := by decide +kernel
theorem dX8_count_79 : decode cX8_count 79 = .ok (.istore 4, 2) := by decide +kernel
theorem dX8_count_81 : decode cX8_count 81 = .ok (.iinc 5 1, 3) := by decide +kernel
theorem dX8_count_84 : decode cX8_count 84 = .ok (.goto (-74), 3) := by decide +kernel
theorem dX8_count_87 : decode cX8_count 87 = .ok (.iload_n 1, 1) := by decide +kernel
theorem dX8_count_88 : decode cX8_count 88 = .ok (.tableswitch 84 0 7 #[48, 55, 62, 67, 69, 71, 74, 79], 48) := by decide +kernel
theorem dX8_count_136 : decode cX8_count 136 = .ok (.aload_n 0, 1) := by decide +kernel
theorem dX8_count_137 : decode cX8_count 137 = .ok (.getfield 7, 3) := by decide +kernel
theorem dX8_count_140 : decode cX8_count 140 = .ok (.iconst 0, 1) := by decide +kernel
theorem dX8_count_141 : decode cX8_count 141 = .ok (.iaload, 1) := by decide +kernel
theorem dX8_count_142 : decode cX8_count 142 = .ok (.ireturn, 1) := by decide +kernel
theorem dX8_count_143 : decode cX8_count 143 = .ok (.aload_n 0, 1) := by decide +kernel
theorem dX8_count_144 : decode cX8_count 144 = .ok (.getfield 7, 3) := by decide +kernel
theorem dX8_count_147 : decode cX8_count 147 = .ok (.iconst 1, 1) := by decide +kernel
theorem dX8_count_148 : decode cX8_count 148 = .ok (.iaload, 1) := by decide +kernel
theorem dX8_count_149 : decode cX8_count 149 = .ok (.ireturn, 1) := by decide +kernel
theorem dX8_count_150 : decode cX8_count 150 = .ok (.iload_n 3, 1) := by decide +kernel
theorem dX8_count_151 : decode cX8_count 151 = .ok (.iload 4, 2) := by decide +kernel
theorem dX8_count_153 : decode cX8_count 153 = .ok (.iadd, 1) := by decide +kernel
theorem dX8_count_154 : decode cX8_count 154 = .ok (.ireturn, 1) := by decide +kernel
theorem dX8_count_155 : decode cX8_count 155 = .ok (.iload_n 2, 1) := by decide +kernel
theorem dX8_count_156 : decode cX8_count 156 = .ok (.ireturn, 1) := by decide +kernel
theorem dX8_count_157 : decode cX8_count 157 = .ok (.iload_n 3, 1) := by decide +kernel
theorem dX8_count_158 : decode cX8_count 158 = .ok (.ireturn, 1) := by decide +kernel
theorem dX8_count_159 : decode cX8_count 159 = .ok (.iload 4, 2) := by decide +kernel
theorem dX8_count_161 : decode cX8_count 161 = .ok (.ireturn, 1) := by decide +kernel
theorem dX8_count_162 : decode cX8_count 162 = .ok (.aload_n 0, 1) := by decide +kernel
theorem dX8_count_163 : decode cX8_count 163 = .ok (.getfield 135, 3) := by decide +kernel
theorem dX8_count_166 : decode cX8_count 166 = .ok (.ireturn, 1) := by decide +kernel
theorem dX8_count_167 : decode cX8_count 167 = .ok (.aload_n 0, 1) := by decide +kernel
theorem dX8_count_168 : decode cX8_count 168 = .ok (.getfield 56, 3) := by decide +kernel
theorem dX8_count_171 : decode cX8_count 171 = .ok (.ireturn, 1) := by decide +kernel
theorem dX8_count_172 : decode cX8_count 172 = .ok (.bipush (-2), 2) := by decide +kernel
theorem dX8_count_174 : decode cX8_count 174 = .ok (.ireturn, 1) := by decide +kernel
set_option maxRecDepth 20000 in
theorem ggX8_costWith_X8_whyNoPiece : GoodIn wsX8_costWith wsX8_whyNoPiece := goodIn_r _ [6, 1, 7, 8, 9, 5, 10, 11, 12, 13, 14, 15, 16, 17, 18, 19, 20, 21, 22, 23, 24, 25, 26, 27, 73, 74, 75, 76, 77, 78, 79, 80, 81, 82, 83, 84, 85, 86, 87, 88, 89, 90] (by decide +kernel) (by decide +kernel)
set_option maxRecDepth 20000 in
theorem gX8_costWith_X8_whyNoPiece : GoodIn wsX8_costWith (wsV RX8 141 RX8 yX8_whyNoPiece wsX8_whyNoPiece) := goodIn_app (goodIn_of _ (by decide +kernel)) ggX8_costWith_X8_whyNoPiece
set_option maxRecDepth 20000 in
theorem ggX8_costWith_X8_padText : GoodIn wsX8_costWith wsX8_padText := goodIn_r _ [10, 11, 12, 13, 14, 5, 15, 73, 74, 75, 76, 77, 78, 79, 80, 81, 82, 83, 84, 85, 86, 87, 88, 89, 90] (by decide +kernel) (by decide +kernel)
set_option maxRecDepth 20000 in
theorem gX8_costWith_X8_padText : GoodIn wsX8_costWith (wsV RX8 138 RX8 yX8_padText wsX8_padText) := goodIn_app (goodIn_of _ (by decide +kernel)) ggX8_costWith_X8_padText
set_option maxRecDepth 20000 in
theorem ggX8_costWith_X8_addPiece : GoodIn wsX8_costWith wsX8_addPiece := goodIn_r _ [31, 1, 32, 33, 5, 34, 35, 36, 37, 73, 74, 75, 76, 77, 78, 79, 80, 81, 82, 83, 84, 85, 86, 87, 88, 89, 90] (by decide +kernel) (by decide +kernel)
set_option maxRecDepth 20000 in
theorem gX8_costWith_X8_addPiece : GoodIn wsX8_costWith (wsV RX8 147 RX8 yX8_addPiece wsX8_addPiece) := goodIn_app (goodIn_of _ (by decide +kernel)) ggX8_costWith_X8_addPiece
set_option maxRecDepth 20000 in
theorem ggX8_costWith_X8_allCosts : GoodIn wsX8_costWith wsX8_allCosts := goodIn_r _ [41, 1, 42, 43, 44, 5, 45, 46, 47, 48, 49, 50, 51, 52, 53, 54, 55, 56, 57, 58, 59, 60, 61, 62, 63, 64, 65, 66, 67, 68, 16, 17, 18, 19, 20, 21, 22, 23, 24, 25, 26, 27, 69, 70, 71, 72, 73, 74, 75, 76, 77, 78, 79, 80, 81, 82, 83, 84, 85, 86, 87, 88, 89, 90] (by decide +kernel) (by decide +kernel)
set_option maxRecDepth 20000 in
theorem gX8_costWith_X8_allCosts : GoodIn wsX8_costWith (wsV RX8 113 RX8 yX8_allCosts wsX8_allCosts) := goodIn_app (goodIn_of _ (by decide +kernel)) ggX8_costWith_X8_allCosts
theorem dX8_costWith_0 : decode cX8_costWith 0 = .ok (.aload_n 0, 1) := by decide +kernel
theorem dX8_costWith_1 : decode cX8_costWith 1 = .ok (.iload_n 1, 1) := by decide +kernel
theorem dX8_costWith_2 : decode cX8_costWith 2 = .ok (.invokevirtual 141, 3) := by decide +kernel
theorem dX8_costWith_5 : decode cX8_costWith 5 = .ok (.istore_n 2, 1) := by decide +kernel
theorem dX8_costWith_6 : decode cX8_costWith 6 = .ok (.iload_n 2, 1) := by decide +kernel
theorem dX8_costWith_7 : decode cX8_costWith 7 = .ok (.ifCond .ge 5, 3) := by decide +kernel
theorem dX8_costWith_10 : decode cX8_costWith 10 = .ok (.iload_n 2, 1) := by decide +kernel
theorem dX8_costWith_11 : decode cX8_costWith 11 = .ok (.ireturn, 1) := by decide +kernel
theorem dX8_costWith_12 : decode cX8_costWith 12 = .ok (.aload_n 0, 1) := by decide +kernel
theorem dX8_costWith_13 : decode cX8_costWith 13 = .ok (.aload_n 0, 1) := by decide +kernel
theorem dX8_costWith_14 : decode cX8_costWith 14 = .ok (.iconst 4, 1) := by decide +kernel
theorem dX8_costWith_15 : decode cX8_costWith 15 = .ok (.invokevirtual 138, 3) := by decide +kernel
theorem dX8_costWith_18 : decode cX8_costWith 18 = .ok (.iload_n 1, 1) := by decide +kernel
theorem dX8_costWith_19 : decode cX8_costWith 19 = .ok (.invokevirtual 147, 3) := by decide +kernel
theorem dX8_costWith_22 : decode cX8_costWith 22 = .ok (.pop, 1) := by decide +kernel
theorem dX8_costWith_23 : decode cX8_costWith 23 = .ok (.aload_n 0, 1) := by decide +kernel
theorem dX8_costWith_24 : decode cX8_costWith 24 = .ok (.invokevirtual 113, 3) := by decide +kernel
theorem dX8_costWith_27 : decode cX8_costWith 27 = .ok (.istore_n 3, 1) := by decide +kernel
theorem dX8_costWith_28 : decode cX8_costWith 28 = .ok (.aload_n 0, 1) := by decide +kernel
theorem dX8_costWith_29 : decode cX8_costWith 29 = .ok (.getfield 7, 3) := by decide +kernel
theorem dX8_costWith_32 : decode cX8_costWith 32 = .ok (.iconst 0, 1) := by decide +kernel
theorem dX8_costWith_33 : decode cX8_costWith 33 = .ok (.dup2, 1) := by decide +kernel
theorem dX8_costWith_34 : decode cX8_costWith 34 = .ok (.iaload, 1) := by decide +kernel
theorem dX8_costWith_35 : decode cX8_costWith 35 = .ok (.iconst 1, 1) := by decide +kernel
theorem dX8_costWith_36 : decode cX8_costWith 36 = .ok (.isub, 1) := by decide +kernel
theorem dX8_costWith_37 : decode cX8_costWith 37 = .ok (.iastore, 1) := by decide +kernel
theorem dX8_costWith_38 : decode cX8_costWith 38 = .ok (.iload_n 3, 1) := by decide +kernel
theorem dX8_costWith_39 : decode cX8_costWith 39 = .ok (.ireturn, 1) := by decide +kernel
set_option maxRecDepth 20000 in
theorem ggX8_growing_X8_within : GoodIn wsX8_growing wsX8_within := goodIn_r _ [6] (by decide +kernel) (by decide +kernel)
set_option maxRecDepth 20000 in
theorem gX8_growing_X8_within : GoodIn wsX8_growing (va_wsS RX8 64 yX8_within wsX8_within) := goodIn_app (goodIn_of _ (by decide +kernel)) ggX8_growing_X8_within
set_option maxRecDepth 20000 in
theorem ggX8_growing_X8_growsAt : GoodIn wsX8_growing wsX8_growsAt := goodIn_r _ [10, 11, 1, 12, 13, 14, 5, 15, 16, 17, 18, 2, 19, 20, 21, 22, 23, 24, 25, 26, 27, 28, 29, 30, 31, 32, 33, 34, 35, 36, 37, 38, 39, 40, 41, 42, 43, 44, 45, 46, 47, 48, 49, 50, 51, 52, 53, 54, 55, 56, 63, 64, 65, 66, 67, 68, 69, 70, 71, 72, 73, 74, 75, 76, 77, 78, 79, 80] (by decide +kernel) (by decide +kernel)
set_option maxRecDepth 20000 in
theorem gX8_growing_X8_growsAt : GoodIn wsX8_growing (wsV RX8 157 RX8 yX8_growsAt wsX8_growsAt) := goodIn_app (goodIn_of _ (by decide +kernel)) ggX8_growing_X8_growsAt
set_option maxRecDepth 20000 in
theorem ggX8_growing_X8_lengthOf : GoodIn wsX8_growing wsX8_lengthOf := goodIn_r _ [59] (by decide +kernel) (by decide +kernel)
set_option maxRecDepth 20000 in
theorem gX8_growing_X8_lengthOf : GoodIn wsX8_growing (va_wsS RX8 75 yX8_lengthOf wsX8_lengthOf) := goodIn_app (goodIn_of _ (by decide +kernel)) ggX8_growing_X8_lengthOf
set_option maxRecDepth 20000 in
theorem ggX8_growing_X8_standsSo : GoodIn wsX8_growing wsX8_standsSo := goodIn_r _ [56, 11, 1, 18, 63, 64, 65, 66, 67, 68, 69, 70, 71, 72, 73, 74, 75, 76, 77, 78, 79, 80] (by decide +kernel) (by decide +kernel)
set_option maxRecDepth 20000 in
theorem gX8_growing_X8_standsSo : GoodIn wsX8_growing (wsV RX8 132 RX8 yX8_standsSo wsX8_standsSo) := goodIn_app (goodIn_of _ (by decide +kernel)) ggX8_growing_X8_standsSo
set_option maxRecDepth 20000 in
theorem ggX8_growing_X8_letterOf : GoodIn wsX8_growing wsX8_letterOf := goodIn_r _ [62, 57, 58, 5, 59] (by decide +kernel) (by decide +kernel)
set_option maxRecDepth 20000 in
theorem gX8_growing_X8_letterOf : GoodIn wsX8_growing (va_wsS RX8 123 yX8_letterOf wsX8_letterOf) := goodIn_app (goodIn_of _ (by decide +kernel)) ggX8_growing_X8_letterOf
theorem dX8_growing_0 : decode cX8_growing 0 = .ok (.iload_n 1, 1) := by decide +kernel
theorem dX8_growing_1 : decode cX8_growing 1 = .ok (.iconst 0, 1) := by decide +kernel
theorem dX8_growing_2 : decode cX8_growing 2 = .ok (.bipush 6, 2) := by decide +kernel
theorem dX8_growing_4 : decode cX8_growing 4 = .ok (.invokestatic 64, 3) := by decide +kernel
theorem dX8_growing_7 : decode cX8_growing 7 = .ok (.ifCond .ne 6, 3) := by decide +kernel
theorem dX8_growing_10 : decode cX8_growing 10 = .ok (.bipush (-2), 2) := by decide +kernel
theorem dX8_growing_12 : decode cX8_growing 12 = .ok (.ireturn, 1) := by decide +kernel
theorem dX8_growing_13 : decode cX8_growing 13 = .ok (.aload_n 0, 1) := by decide +kernel
theorem dX8_growing_14 : decode cX8_growing 14 = .ok (.invokevirtual 157, 3) := by decide +kernel
theorem dX8_growing_17 : decode cX8_growing 17 = .ok (.istore_n 2, 1) := by decide +kernel
theorem dX8_growing_18 : decode cX8_growing 18 = .ok (.iload_n 2, 1) := by decide +kernel
theorem dX8_growing_19 : decode cX8_growing 19 = .ok (.bipush (-6), 2) := by decide +kernel
theorem dX8_growing_21 : decode cX8_growing 21 = .ok (.if_icmp .ne 6, 3) := by decide +kernel
theorem dX8_growing_24 : decode cX8_growing 24 = .ok (.bipush (-6), 2) := by decide +kernel
theorem dX8_growing_26 : decode cX8_growing 26 = .ok (.ireturn, 1) := by decide +kernel
theorem dX8_growing_27 : decode cX8_growing 27 = .ok (.iload_n 1, 1) := by decide +kernel
theorem dX8_growing_28 : decode cX8_growing 28 = .ok (.ifCond .ne 15, 3) := by decide +kernel
theorem dX8_growing_31 : decode cX8_growing 31 = .ok (.aload_n 0, 1) := by decide +kernel
theorem dX8_growing_32 : decode cX8_growing 32 = .ok (.getfield 44, 3) := by decide +kernel
theorem dX8_growing_35 : decode cX8_growing 35 = .ok (.iload_n 2, 1) := by decide +kernel
theorem dX8_growing_36 : decode cX8_growing 36 = .ok (.iaload, 1) := by decide +kernel
theorem dX8_growing_37 : decode cX8_growing 37 = .ok (.invokestatic 75, 3) := by decide +kernel
theorem dX8_growing_40 : decode cX8_growing 40 = .ok (.goto 47, 3) := by decide +kernel
theorem dX8_growing_43 : decode cX8_growing 43 = .ok (.iload_n 1, 1) := by decide +kernel
theorem dX8_growing_44 : decode cX8_growing 44 = .ok (.iconst 1, 1) := by decide +kernel
theorem dX8_growing_45 : decode cX8_growing 45 = .ok (.if_icmp .ne 16, 3) := by decide +kernel
theorem dX8_growing_48 : decode cX8_growing 48 = .ok (.aload_n 0, 1) := by decide +kernel
theorem dX8_growing_49 : decode cX8_growing 49 = .ok (.aload_n 0, 1) := by decide +kernel
theorem dX8_growing_50 : decode cX8_growing 50 = .ok (.getfield 44, 3) := by decide +kernel
theorem dX8_growing_53 : decode cX8_growing 53 = .ok (.iload_n 2, 1) := by decide +kernel
theorem dX8_growing_54 : decode cX8_growing 54 = .ok (.iaload, 1) := by decide +kernel
theorem dX8_growing_55 : decode cX8_growing 55 = .ok (.invokevirtual 132, 3) := by decide +kernel
theorem dX8_growing_58 : decode cX8_growing 58 = .ok (.goto 29, 3) := by decide +kernel
theorem dX8_growing_61 : decode cX8_growing 61 = .ok (.iload_n 1, 1) := by decide +kernel
theorem dX8_growing_62 : decode cX8_growing 62 = .ok (.iconst 2, 1) := by decide +kernel
theorem dX8_growing_63 : decode cX8_growing 63 = .ok (.if_icmp .ne 12, 3) := by decide +kernel
theorem dX8_growing_66 : decode cX8_growing 66 = .ok (.aload_n 0, 1) := by decide +kernel
theorem dX8_growing_67 : decode cX8_growing 67 = .ok (.getfield 50, 3) := by decide +kernel
theorem dX8_growing_70 : decode cX8_growing 70 = .ok (.iload_n 2, 1) := by decide +kernel
theorem dX8_growing_71 : decode cX8_growing 71 = .ok (.iaload, 1) := by decide +kernel
theorem dX8_growing_72 : decode cX8_growing 72 = .ok (.goto 15, 3) := by decide +kernel
theorem dX8_growing_75 : decode cX8_growing 75 = .ok (.aload_n 0, 1) := by decide +kernel
theorem dX8_growing_76 : decode cX8_growing 76 = .ok (.getfield 44, 3) := by decide +kernel
theorem dX8_growing_79 : decode cX8_growing 79 = .ok (.iload_n 2, 1) := by decide +kernel
theorem dX8_growing_80 : decode cX8_growing 80 = .ok (.iaload, 1) := by decide +kernel
theorem dX8_growing_81 : decode cX8_growing 81 = .ok (.iload_n 1, 1) := by decide +kernel
theorem dX8_growing_82 : decode cX8_growing 82 = .ok (.iconst 3, 1) := by decide +kernel
theorem dX8_growing_83 : decode cX8_growing 83 = .ok (.isub, 1) := by decide +kernel
theorem dX8_growing_84 : decode cX8_growing 84 = .ok (.invokestatic 123, 3) := by decide +kernel
theorem dX8_growing_87 : decode cX8_growing 87 = .ok (.ireturn, 1) := by decide +kernel
set_option maxRecDepth 20000 in
theorem ggX8_least_X8_leastOf : GoodIn wsX8_least wsX8_leastOf := goodIn_r _ [5, 6, 7, 8, 9, 4, 10, 11, 12, 13, 14, 15, 16, 17, 18, 19, 20, 21, 22, 23, 24, 25, 26, 27, 28, 29, 30, 31, 32, 33, 34, 35, 36, 37, 38, 39, 40, 41, 42, 43, 44, 45, 46, 47, 48, 49, 50, 51, 52, 53, 54, 55, 56, 57, 58, 59, 60, 61, 62, 63, 64, 65, 66, 67, 68, 69, 70, 71, 72, 73, 74, 75, 76, 77, 78, 79, 80, 81, 82, 83] (by decide +kernel) (by decide +kernel)
set_option maxRecDepth 20000 in
theorem gX8_least_X8_leastOf : GoodIn wsX8_least (wsV RX8 163 RX8 yX8_leastOf wsX8_leastOf) := goodIn_app (goodIn_of _ (by decide +kernel)) ggX8_least_X8_leastOf
theorem dX8_least_0 : decode cX8_least 0 = .ok (.aload_n 0, 1) := by decide +kernel
theorem dX8_least_1 : decode cX8_least 1 = .ok (.invokevirtual 163, 3) := by decide +kernel
theorem dX8_least_4 : decode cX8_least 4 = .ok (.ireturn, 1) := by decide +kernel
set_option maxRecDepth 20000 in
theorem ggX8_put_X8_within : GoodIn wsX8_put wsX8_within := goodIn_r _ [7] (by decide +kernel) (by decide +kernel)
set_option maxRecDepth 20000 in
theorem gX8_put_X8_within : GoodIn wsX8_put (va_wsS RX8 64 yX8_within wsX8_within) := goodIn_app (goodIn_of _ (by decide +kernel)) ggX8_put_X8_within
theorem dX8_put_0 : decode cX8_put 0 = .ok (.iconst 0, 1) := by decide +kernel
theorem dX8_put_1 : decode cX8_put 1 = .ok (.istore_n 3, 1) := by decide +kernel
theorem dX8_put_2 : decode cX8_put 2 = .ok (.lload_n 1, 1) := by decide +kernel
theorem dX8_put_3 : decode cX8_put 3 = .ok (.lstore 4, 2) := by decide +kernel
theorem dX8_put_5 : decode cX8_put 5 = .ok (.iconst 1, 1) := by decide +kernel
theorem dX8_put_6 : decode cX8_put 6 = .ok (.istore 6, 2) := by decide +kernel
theorem dX8_put_8 : decode cX8_put 8 = .ok (.iload_n 3, 1) := by decide +kernel
theorem dX8_put_9 : decode cX8_put 9 = .ok (.bipush 8, 2) := by decide +kernel
theorem dX8_put_11 : decode cX8_put 11 = .ok (.if_icmp .ge 56, 3) := by decide +kernel
theorem dX8_put_14 : decode cX8_put 14 = .ok (.lload 4, 2) := by decide +kernel
theorem dX8_put_16 : decode cX8_put 16 = .ok (.ldc2_w 177, 3) := by decide +kernel
theorem dX8_put_19 : decode cX8_put 19 = .ok (.land, 1) := by decide +kernel
theorem dX8_put_20 : decode cX8_put 20 = .ok (.lconst 0, 1) := by decide +kernel
theorem dX8_put_21 : decode cX8_put 21 = .ok (.lcmp, 1) := by decide +kernel
theorem dX8_put_22 : decode cX8_put 22 = .ok (.ifCond .eq 45, 3) := by decide +kernel
theorem dX8_put_25 : decode cX8_put 25 = .ok (.iload 6, 2) := by decide +kernel
theorem dX8_put_27 : decode cX8_put 27 = .ok (.ifCond .eq 24, 3) := by decide +kernel
theorem dX8_put_30 : decode cX8_put 30 = .ok (.lload 4, 2) := by decide +kernel
theorem dX8_put_32 : decode cX8_put 32 = .ok (.ldc2_w 177, 3) := by decide +kernel
theorem dX8_put_35 : decode cX8_put 35 = .ok (.land, 1) := by decide +kernel
theorem dX8_put_36 : decode cX8_put 36 = .ok (.l2i, 1) := by decide +kernel
theorem dX8_put_37 : decode cX8_put 37 = .ok (.bipush 33, 2) := by decide +kernel
theorem dX8_put_39 : decode cX8_put 39 = .ok (.bipush 126, 2) := by decide +kernel
theorem dX8_put_41 : decode cX8_put 41 = .ok (.invokestatic 64, 3) := by decide +kernel
theorem dX8_put_44 : decode cX8_put 44 = .ok (.ifCond .eq 7, 3) := by decide +kernel
theorem dX8_put_47 : decode cX8_put 47 = .ok (.iconst 1, 1) := by decide +kernel
theorem dX8_put_48 : decode cX8_put 48 = .ok (.goto 4, 3) := by decide +kernel
theorem dX8_put_51 : decode cX8_put 51 = .ok (.iconst 0, 1) := by decide +kernel
theorem dX8_put_52 : decode cX8_put 52 = .ok (.istore 6, 2) := by decide +kernel
theorem dX8_put_54 : decode cX8_put 54 = .ok (.lload 4, 2) := by decide +kernel
theorem dX8_put_56 : decode cX8_put 56 = .ok (.bipush 8, 2) := by decide +kernel
theorem dX8_put_58 : decode cX8_put 58 = .ok (.lushr, 1) := by decide +kernel
theorem dX8_put_59 : decode cX8_put 59 = .ok (.lstore 4, 2) := by decide +kernel
theorem dX8_put_61 : decode cX8_put 61 = .ok (.iinc 3 1, 3) := by decide +kernel
theorem dX8_put_64 : decode cX8_put 64 = .ok (.goto (-56), 3) := by decide +kernel
theorem dX8_put_67 : decode cX8_put 67 = .ok (.iload_n 3, 1) := by decide +kernel
theorem dX8_put_68 : decode cX8_put 68 = .ok (.ifCond .eq 15, 3) := by decide +kernel
theorem dX8_put_71 : decode cX8_put 71 = .ok (.iload 6, 2) := by decide +kernel
theorem dX8_put_73 : decode cX8_put 73 = .ok (.ifCond .eq 10, 3) := by decide +kernel
theorem dX8_put_76 : decode cX8_put 76 = .ok (.lload 4, 2) := by decide +kernel
theorem dX8_put_78 : decode cX8_put 78 = .ok (.lconst 0, 1) := by decide +kernel
theorem dX8_put_79 : decode cX8_put 79 = .ok (.lcmp, 1) := by decide +kernel
theorem dX8_put_80 : decode cX8_put 80 = .ok (.ifCond .eq 6, 3) := by decide +kernel
theorem dX8_put_83 : decode cX8_put 83 = .ok (.bipush (-2), 2) := by decide +kernel
theorem dX8_put_85 : decode cX8_put 85 = .ok (.ireturn, 1) := by decide +kernel
theorem dX8_put_86 : decode cX8_put 86 = .ok (.aload_n 0, 1) := by decide +kernel
theorem dX8_put_87 : decode cX8_put 87 = .ok (.getfield 135, 3) := by decide +kernel
theorem dX8_put_90 : decode cX8_put 90 = .ok (.iload_n 3, 1) := by decide +kernel
theorem dX8_put_91 : decode cX8_put 91 = .ok (.iadd, 1) := by decide +kernel
theorem dX8_put_92 : decode cX8_put 92 = .ok (.bipush 16, 2) := by decide +kernel
theorem dX8_put_94 : decode cX8_put 94 = .ok (.if_icmp .le 6, 3) := by decide +kernel
theorem dX8_put_97 : decode cX8_put 97 = .ok (.bipush (-4), 2) := by decide +kernel
theorem dX8_put_99 : decode cX8_put 99 = .ok (.ireturn, 1) := by decide +kernel
theorem dX8_put_100 : decode cX8_put 100 = .ok (.iload_n 3, 1) := by decide +kernel
theorem dX8_put_101 : decode cX8_put 101 = .ok (.iconst 1, 1) := by decide +kernel
theorem dX8_put_102 : decode cX8_put 102 = .ok (.isub, 1) := by decide +kernel
theorem dX8_put_103 : decode cX8_put 103 = .ok (.istore 7, 2) := by decide +kernel
theorem dX8_put_105 : decode cX8_put 105 = .ok (.iload 7, 2) := by decide +kernel
theorem dX8_put_107 : decode cX8_put 107 = .ok (.ifCond .lt 40, 3) := by decide +kernel
theorem dX8_put_110 : decode cX8_put 110 = .ok (.aload_n 0, 1) := by decide +kernel
theorem dX8_put_111 : decode cX8_put 111 = .ok (.getfield 25, 3) := by decide +kernel
theorem dX8_put_114 : decode cX8_put 114 = .ok (.aload_n 0, 1) := by decide +kernel
theorem dX8_put_115 : decode cX8_put 115 = .ok (.getfield 135, 3) := by decide +kernel
theorem dX8_put_118 : decode cX8_put 118 = .ok (.lload_n 1, 1) := by decide +kernel
theorem dX8_put_119 : decode cX8_put 119 = .ok (.bipush 8, 2) := by decide +kernel
theorem dX8_put_121 : decode cX8_put 121 = .ok (.iload 7, 2) := by decide +kernel
theorem dX8_put_123 : decode cX8_put 123 = .ok (.imul, 1) := by decide +kernel
theorem dX8_put_124 : decode cX8_put 124 = .ok (.lushr, 1) := by decide +kernel
theorem dX8_put_125 : decode cX8_put 125 = .ok (.ldc2_w 177, 3) := by decide +kernel
theorem dX8_put_128 : decode cX8_put 128 = .ok (.land, 1) := by decide +kernel
theorem dX8_put_129 : decode cX8_put 129 = .ok (.l2i, 1) := by decide +kernel
theorem dX8_put_130 : decode cX8_put 130 = .ok (.iastore, 1) := by decide +kernel
theorem dX8_put_131 : decode cX8_put 131 = .ok (.aload_n 0, 1) := by decide +kernel
theorem dX8_put_132 : decode cX8_put 132 = .ok (.dup, 1) := by decide +kernel
theorem dX8_put_133 : decode cX8_put 133 = .ok (.getfield 135, 3) := by decide +kernel
theorem dX8_put_136 : decode cX8_put 136 = .ok (.iconst 1, 1) := by decide +kernel
theorem dX8_put_137 : decode cX8_put 137 = .ok (.iadd, 1) := by decide +kernel
theorem dX8_put_138 : decode cX8_put 138 = .ok (.putfield 135, 3) := by decide +kernel
theorem dX8_put_141 : decode cX8_put 141 = .ok (.iinc 7 (-1), 3) := by decide +kernel
theorem dX8_put_144 : decode cX8_put 144 = .ok (.goto (-39), 3) := by decide +kernel
theorem dX8_put_147 : decode cX8_put 147 = .ok (.aload_n 0, 1) := by decide +kernel
theorem dX8_put_148 : decode cX8_put 148 = .ok (.getfield 135, 3) := by decide +kernel
theorem dX8_put_151 : decode cX8_put 151 = .ok (.ireturn, 1) := by decide +kernel
theorem dX8_wipe_0 : decode cX8_wipe 0 = .ok (.aload_n 0, 1) := by decide +kernel
theorem dX8_wipe_1 : decode cX8_wipe 1 = .ok (.getfield 135, 3) := by decide +kernel
theorem dX8_wipe_4 : decode cX8_wipe 4 = .ok (.istore_n 1, 1) := by decide +kernel
theorem dX8_wipe_5 : decode cX8_wipe 5 = .ok (.aload_n 0, 1) := by decide +kernel
theorem dX8_wipe_6 : decode cX8_wipe 6 = .ok (.iconst 0, 1) := by decide +kernel
theorem dX8_wipe_7 : decode cX8_wipe 7 = .ok (.putfield 135, 3) := by decide +kernel
theorem dX8_wipe_10 : decode cX8_wipe 10 = .ok (.iload_n 1, 1) := by decide +kernel
theorem dX8_wipe_11 : decode cX8_wipe 11 = .ok (.ireturn, 1) := by decide +kernel
set_option maxRecDepth 20000 in
theorem ggX8_fault_X8_within : GoodIn wsX8_fault wsX8_within := goodIn_r _ [6] (by decide +kernel) (by decide +kernel)
set_option maxRecDepth 20000 in
theorem gX8_fault_X8_within : GoodIn wsX8_fault (va_wsS RX8 64 yX8_within wsX8_within) := goodIn_app (goodIn_of _ (by decide +kernel)) ggX8_fault_X8_within
theorem dX8_fault_0 : decode cX8_fault 0 = .ok (.iconst 0, 1) := by decide +kernel
theorem dX8_fault_1 : decode cX8_fault 1 = .ok (.istore_n 1, 1) := by decide +kernel
theorem dX8_fault_2 : decode cX8_fault 2 = .ok (.iload_n 1, 1) := by decide +kernel
theorem dX8_fault_3 : decode cX8_fault 3 = .ok (.aload_n 0, 1) := by decide +kernel
theorem dX8_fault_4 : decode cX8_fault 4 = .ok (.getfield 135, 3) := by decide +kernel
theorem dX8_fault_7 : decode cX8_fault 7 = .ok (.if_icmp .ge 27, 3) := by decide +kernel
theorem dX8_fault_10 : decode cX8_fault 10 = .ok (.aload_n 0, 1) := by decide +kernel
theorem dX8_fault_11 : decode cX8_fault 11 = .ok (.getfield 25, 3) := by decide +kernel
theorem dX8_fault_14 : decode cX8_fault 14 = .ok (.iload_n 1, 1) := by decide +kernel
theorem dX8_fault_15 : decode cX8_fault 15 = .ok (.iaload, 1) := by decide +kernel
theorem dX8_fault_16 : decode cX8_fault 16 = .ok (.bipush 97, 2) := by decide +kernel
theorem dX8_fault_18 : decode cX8_fault 18 = .ok (.bipush 102, 2) := by decide +kernel
theorem dX8_fault_20 : decode cX8_fault 20 = .ok (.invokestatic 64, 3) := by decide +kernel
theorem dX8_fault_23 : decode cX8_fault 23 = .ok (.ifCond .ne 5, 3) := by decide +kernel
theorem dX8_fault_26 : decode cX8_fault 26 = .ok (.iload_n 1, 1) := by decide +kernel
theorem dX8_fault_27 : decode cX8_fault 27 = .ok (.ireturn, 1) := by decide +kernel
theorem dX8_fault_28 : decode cX8_fault 28 = .ok (.iinc 1 1, 3) := by decide +kernel
theorem dX8_fault_31 : decode cX8_fault 31 = .ok (.goto (-29), 3) := by decide +kernel
theorem dX8_fault_34 : decode cX8_fault 34 = .ok (.bipush (-6), 2) := by decide +kernel
theorem dX8_fault_36 : decode cX8_fault 36 = .ok (.ireturn, 1) := by decide +kernel
set_option maxRecDepth 20000 in
theorem ggX8_undo_X8_copy : GoodIn wsX8_undo wsX8_copy := goodIn_r _ [7] (by decide +kernel) (by decide +kernel)
set_option maxRecDepth 20000 in
theorem gX8_undo_X8_copy : GoodIn wsX8_undo (va_wsS RX8 60 yX8_copy wsX8_copy) := goodIn_app (goodIn_of _ (by decide +kernel)) ggX8_undo_X8_copy
theorem dX8_undo_0 : decode cX8_undo 0 = .ok (.aload_n 0, 1) := by decide +kernel
theorem dX8_undo_1 : decode cX8_undo 1 = .ok (.getfield 56, 3) := by decide +kernel
theorem dX8_undo_4 : decode cX8_undo 4 = .ok (.ifCond .ne 6, 3) := by decide +kernel
theorem dX8_undo_7 : decode cX8_undo 7 = .ok (.bipush (-5), 2) := by decide +kernel
theorem dX8_undo_9 : decode cX8_undo 9 = .ok (.ireturn, 1) := by decide +kernel
theorem dX8_undo_10 : decode cX8_undo 10 = .ok (.aload_n 0, 1) := by decide +kernel
theorem dX8_undo_11 : decode cX8_undo 11 = .ok (.dup, 1) := by decide +kernel
theorem dX8_undo_12 : decode cX8_undo 12 = .ok (.getfield 56, 3) := by decide +kernel
theorem dX8_undo_15 : decode cX8_undo 15 = .ok (.iconst 1, 1) := by decide +kernel
theorem dX8_undo_16 : decode cX8_undo 16 = .ok (.isub, 1) := by decide +kernel
theorem dX8_undo_17 : decode cX8_undo 17 = .ok (.putfield 56, 3) := by decide +kernel
theorem dX8_undo_20 : decode cX8_undo 20 = .ok (.aload_n 0, 1) := by decide +kernel
theorem dX8_undo_21 : decode cX8_undo 21 = .ok (.getfield 16, 3) := by decide +kernel
theorem dX8_undo_24 : decode cX8_undo 24 = .ok (.aload_n 0, 1) := by decide +kernel
theorem dX8_undo_25 : decode cX8_undo 25 = .ok (.getfield 56, 3) := by decide +kernel
theorem dX8_undo_28 : decode cX8_undo 28 = .ok (.sipush 210, 3) := by decide +kernel
theorem dX8_undo_31 : decode cX8_undo 31 = .ok (.imul, 1) := by decide +kernel
theorem dX8_undo_32 : decode cX8_undo 32 = .ok (.aload_n 0, 1) := by decide +kernel
theorem dX8_undo_33 : decode cX8_undo 33 = .ok (.getfield 7, 3) := by decide +kernel
theorem dX8_undo_36 : decode cX8_undo 36 = .ok (.iconst 0, 1) := by decide +kernel
theorem dX8_undo_37 : decode cX8_undo 37 = .ok (.invokestatic 60, 3) := by decide +kernel
theorem dX8_undo_40 : decode cX8_undo 40 = .ok (.aload_n 0, 1) := by decide +kernel
theorem dX8_undo_41 : decode cX8_undo 41 = .ok (.getfield 56, 3) := by decide +kernel
theorem dX8_undo_44 : decode cX8_undo 44 = .ok (.ireturn, 1) := by decide +kernel
set_option maxRecDepth 20000 in
theorem ggX8_save_X8_within : GoodIn wsX8_save wsX8_within := goodIn_r _ [7] (by decide +kernel) (by decide +kernel)
set_option maxRecDepth 20000 in
theorem gX8_save_X8_within : GoodIn wsX8_save (va_wsS RX8 64 yX8_within wsX8_within) := goodIn_app (goodIn_of _ (by decide +kernel)) ggX8_save_X8_within
set_option maxRecDepth 20000 in
theorem ggX8_save_X8_copy : GoodIn wsX8_save wsX8_copy := goodIn_r _ [10] (by decide +kernel) (by decide +kernel)
set_option maxRecDepth 20000 in
theorem gX8_save_X8_copy : GoodIn wsX8_save (va_wsS RX8 60 yX8_copy wsX8_copy) := goodIn_app (goodIn_of _ (by decide +kernel)) ggX8_save_X8_copy
theorem dX8_save_0 : decode cX8_save 0 = .ok (.iload_n 1, 1) := by decide +kernel
theorem dX8_save_1 : decode cX8_save 1 = .ok (.iconst 0, 1) := by decide +kernel
theorem dX8_save_2 : decode cX8_save 2 = .ok (.iconst 1, 1) := by decide +kernel
theorem dX8_save_3 : decode cX8_save 3 = .ok (.invokestatic 64, 3) := by decide +kernel
theorem dX8_save_6 : decode cX8_save 6 = .ok (.ifCond .ne 6, 3) := by decide +kernel
theorem dX8_save_9 : decode cX8_save 9 = .ok (.bipush (-2), 2) := by decide +kernel
theorem dX8_save_11 : decode cX8_save 11 = .ok (.ireturn, 1) := by decide +kernel
theorem dX8_save_12 : decode cX8_save 12 = .ok (.aload_n 0, 1) := by decide +kernel
theorem dX8_save_13 : decode cX8_save 13 = .ok (.getfield 7, 3) := by decide +kernel
theorem dX8_save_16 : decode cX8_save 16 = .ok (.iconst 0, 1) := by decide +kernel
theorem dX8_save_17 : decode cX8_save 17 = .ok (.aload_n 0, 1) := by decide +kernel
theorem dX8_save_18 : decode cX8_save 18 = .ok (.getfield 19, 3) := by decide +kernel
theorem dX8_save_21 : decode cX8_save 21 = .ok (.sipush 210, 3) := by decide +kernel
theorem dX8_save_24 : decode cX8_save 24 = .ok (.iload_n 1, 1) := by decide +kernel
theorem dX8_save_25 : decode cX8_save 25 = .ok (.imul, 1) := by decide +kernel
theorem dX8_save_26 : decode cX8_save 26 = .ok (.invokestatic 60, 3) := by decide +kernel
theorem dX8_save_29 : decode cX8_save 29 = .ok (.aload_n 0, 1) := by decide +kernel
theorem dX8_save_30 : decode cX8_save 30 = .ok (.getfield 22, 3) := by decide +kernel
theorem dX8_save_33 : decode cX8_save 33 = .ok (.iload_n 1, 1) := by decide +kernel
theorem dX8_save_34 : decode cX8_save 34 = .ok (.iconst 1, 1) := by decide +kernel
theorem dX8_save_35 : decode cX8_save 35 = .ok (.iastore, 1) := by decide +kernel
theorem dX8_save_36 : decode cX8_save 36 = .ok (.aload_n 0, 1) := by decide +kernel
theorem dX8_save_37 : decode cX8_save 37 = .ok (.getfield 7, 3) := by decide +kernel
theorem dX8_save_40 : decode cX8_save 40 = .ok (.iconst 0, 1) := by decide +kernel
theorem dX8_save_41 : decode cX8_save 41 = .ok (.iaload, 1) := by decide +kernel
theorem dX8_save_42 : decode cX8_save 42 = .ok (.ireturn, 1) := by decide +kernel
set_option maxRecDepth 20000 in
theorem ggX8_restore_X8_within : GoodIn wsX8_restore wsX8_within := goodIn_r _ [7] (by decide +kernel) (by decide +kernel)
set_option maxRecDepth 20000 in
theorem gX8_restore_X8_within : GoodIn wsX8_restore (va_wsS RX8 64 yX8_within wsX8_within) := goodIn_app (goodIn_of _ (by decide +kernel)) ggX8_restore_X8_within
set_option maxRecDepth 20000 in
theorem ggX8_restore_X8_record : GoodIn wsX8_restore wsX8_record := goodIn_r _ [11, 12, 13, 3, 14, 15, 6, 16, 17, 18, 19, 20, 21, 22, 23, 24, 25, 26, 27, 28, 29, 30, 31, 32, 33, 34] (by decide +kernel) (by decide +kernel)
set_option maxRecDepth 20000 in
theorem gX8_restore_X8_record : GoodIn wsX8_restore (wsV RX8 144 RX8 yX8_record wsX8_record) := goodIn_app (goodIn_of _ (by decide +kernel)) ggX8_restore_X8_record
set_option maxRecDepth 20000 in
theorem ggX8_restore_X8_copy : GoodIn wsX8_restore wsX8_copy := goodIn_r _ [16] (by decide +kernel) (by decide +kernel)
set_option maxRecDepth 20000 in
theorem gX8_restore_X8_copy : GoodIn wsX8_restore (va_wsS RX8 60 yX8_copy wsX8_copy) := goodIn_app (goodIn_of _ (by decide +kernel)) ggX8_restore_X8_copy
theorem dX8_restore_0 : decode cX8_restore 0 = .ok (.iload_n 1, 1) := by decide +kernel
theorem dX8_restore_1 : decode cX8_restore 1 = .ok (.iconst 0, 1) := by decide +kernel
theorem dX8_restore_2 : decode cX8_restore 2 = .ok (.iconst 1, 1) := by decide +kernel
theorem dX8_restore_3 : decode cX8_restore 3 = .ok (.invokestatic 64, 3) := by decide +kernel
theorem dX8_restore_6 : decode cX8_restore 6 = .ok (.ifCond .ne 6, 3) := by decide +kernel
theorem dX8_restore_9 : decode cX8_restore 9 = .ok (.bipush (-2), 2) := by decide +kernel
theorem dX8_restore_11 : decode cX8_restore 11 = .ok (.ireturn, 1) := by decide +kernel
theorem dX8_restore_12 : decode cX8_restore 12 = .ok (.aload_n 0, 1) := by decide +kernel
theorem dX8_restore_13 : decode cX8_restore 13 = .ok (.getfield 22, 3) := by decide +kernel
theorem dX8_restore_16 : decode cX8_restore 16 = .ok (.iload_n 1, 1) := by decide +kernel
theorem dX8_restore_17 : decode cX8_restore 17 = .ok (.iaload, 1) := by decide +kernel
theorem dX8_restore_18 : decode cX8_restore 18 = .ok (.ifCond .ne 6, 3) := by decide +kernel
theorem dX8_restore_21 : decode cX8_restore 21 = .ok (.bipush (-5), 2) := by decide +kernel
theorem dX8_restore_23 : decode cX8_restore 23 = .ok (.ireturn, 1) := by decide +kernel
theorem dX8_restore_24 : decode cX8_restore 24 = .ok (.aload_n 0, 1) := by decide +kernel
theorem dX8_restore_25 : decode cX8_restore 25 = .ok (.invokevirtual 144, 3) := by decide +kernel
theorem dX8_restore_28 : decode cX8_restore 28 = .ok (.aload_n 0, 1) := by decide +kernel
theorem dX8_restore_29 : decode cX8_restore 29 = .ok (.getfield 19, 3) := by decide +kernel
theorem dX8_restore_32 : decode cX8_restore 32 = .ok (.sipush 210, 3) := by decide +kernel
theorem dX8_restore_35 : decode cX8_restore 35 = .ok (.iload_n 1, 1) := by decide +kernel
theorem dX8_restore_36 : decode cX8_restore 36 = .ok (.imul, 1) := by decide +kernel
theorem dX8_restore_37 : decode cX8_restore 37 = .ok (.aload_n 0, 1) := by decide +kernel
theorem dX8_restore_38 : decode cX8_restore 38 = .ok (.getfield 7, 3) := by decide +kernel
theorem dX8_restore_41 : decode cX8_restore 41 = .ok (.iconst 0, 1) := by decide +kernel
theorem dX8_restore_42 : decode cX8_restore 42 = .ok (.invokestatic 60, 3) := by decide +kernel
theorem dX8_restore_45 : decode cX8_restore 45 = .ok (.aload_n 0, 1) := by decide +kernel
theorem dX8_restore_46 : decode cX8_restore 46 = .ok (.getfield 7, 3) := by decide +kernel
theorem dX8_restore_49 : decode cX8_restore 49 = .ok (.iconst 0, 1) := by decide +kernel
theorem dX8_restore_50 : decode cX8_restore 50 = .ok (.iaload, 1) := by decide +kernel
theorem dX8_restore_51 : decode cX8_restore 51 = .ok (.ireturn, 1) := by decide +kernel
theorem dJ9_max_7cf53_0 : decode cJ9_max_7cf53 0 = .ok (.iload_n 0, 1) := by decide +kernel
theorem dJ9_max_7cf53_1 : decode cJ9_max_7cf53 1 = .ok (.iload_n 1, 1) := by decide +kernel
theorem dJ9_max_7cf53_2 : decode cJ9_max_7cf53 2 = .ok (.if_icmp .lt 7, 3) := by decide +kernel
theorem dJ9_max_7cf53_5 : decode cJ9_max_7cf53 5 = .ok (.iload_n 0, 1) := by decide +kernel
theorem dJ9_max_7cf53_6 : decode cJ9_max_7cf53 6 = .ok (.goto 4, 3) := by decide +kernel
theorem dJ9_max_7cf53_9 : decode cJ9_max_7cf53 9 = .ok (.iload_n 1, 1) := by decide +kernel
theorem dJ9_max_7cf53_10 : decode cJ9_max_7cf53 10 = .ok (.ireturn, 1) := by decide +kernel
theorem dJ9_min_7cf53_0 : decode cJ9_min_7cf53 0 = .ok (.iload_n 0, 1) := by decide +kernel
theorem dJ9_min_7cf53_1 : decode cJ9_min_7cf53 1 = .ok (.iload_n 1, 1) := by decide +kernel
theorem dJ9_min_7cf53_2 : decode cJ9_min_7cf53 2 = .ok (.if_icmp .gt 7, 3) := by decide +kernel
theorem dJ9_min_7cf53_5 : decode cJ9_min_7cf53 5 = .ok (.iload_n 0, 1) := by decide +kernel
theorem dJ9_min_7cf53_6 : decode cJ9_min_7cf53 6 = .ok (.goto 4, 3) := by decide +kernel
theorem dJ9_min_7cf53_9 : decode cJ9_min_7cf53 9 = .ok (.iload_n 1, 1) := by decide +kernel
theorem dJ9_min_7cf53_10 : decode cJ9_min_7cf53 10 = .ok (.ireturn, 1) := by decide +kernel
theorem dJ7_fill_d0a16_0 : decode cJ7_fill_d0a16 0 = .ok (.iconst 0, 1) := by decide +kernel
theorem dJ7_fill_d0a16_1 : decode cJ7_fill_d0a16 1 = .ok (.istore_n 3, 1) := by decide +kernel
theorem dJ7_fill_d0a16_2 : decode cJ7_fill_d0a16 2 = .ok (.aload_n 0, 1) := by decide +kernel
theorem dJ7_fill_d0a16_3 : decode cJ7_fill_d0a16 3 = .ok (.arraylength, 1) := by decide +kernel
theorem dJ7_fill_d0a16_4 : decode cJ7_fill_d0a16 4 = .ok (.istore 4, 2) := by decide +kernel
theorem dJ7_fill_d0a16_6 : decode cJ7_fill_d0a16 6 = .ok (.iload_n 3, 1) := by decide +kernel
theorem dJ7_fill_d0a16_7 : decode cJ7_fill_d0a16 7 = .ok (.iload 4, 2) := by decide +kernel
theorem dJ7_fill_d0a16_9 : decode cJ7_fill_d0a16 9 = .ok (.if_icmp .ge 13, 3) := by decide +kernel
theorem dJ7_fill_d0a16_12 : decode cJ7_fill_d0a16 12 = .ok (.aload_n 0, 1) := by decide +kernel
theorem dJ7_fill_d0a16_13 : decode cJ7_fill_d0a16 13 = .ok (.iload_n 3, 1) := by decide +kernel
theorem dJ7_fill_d0a16_14 : decode cJ7_fill_d0a16 14 = .ok (.lload_n 1, 1) := by decide +kernel
theorem dJ7_fill_d0a16_15 : decode cJ7_fill_d0a16 15 = .ok (.lastore, 1) := by decide +kernel
theorem dJ7_fill_d0a16_16 : decode cJ7_fill_d0a16 16 = .ok (.iinc 3 1, 3) := by decide +kernel
theorem dJ7_fill_d0a16_19 : decode cJ7_fill_d0a16 19 = .ok (.goto (-13), 3) := by decide +kernel
theorem dJ7_fill_d0a16_22 : decode cJ7_fill_d0a16 22 = .ok (.return_, 1) := by decide +kernel
theorem dJ7_fill_53178_0 : decode cJ7_fill_53178 0 = .ok (.iconst 0, 1) := by decide +kernel
theorem dJ7_fill_53178_1 : decode cJ7_fill_53178 1 = .ok (.istore_n 2, 1) := by decide +kernel
theorem dJ7_fill_53178_2 : decode cJ7_fill_53178 2 = .ok (.aload_n 0, 1) := by decide +kernel
theorem dJ7_fill_53178_3 : decode cJ7_fill_53178 3 = .ok (.arraylength, 1) := by decide +kernel
theorem dJ7_fill_53178_4 : decode cJ7_fill_53178 4 = .ok (.istore_n 3, 1) := by decide +kernel
theorem dJ7_fill_53178_5 : decode cJ7_fill_53178 5 = .ok (.iload_n 2, 1) := by decide +kernel
theorem dJ7_fill_53178_6 : decode cJ7_fill_53178 6 = .ok (.iload_n 3, 1) := by decide +kernel
theorem dJ7_fill_53178_7 : decode cJ7_fill_53178 7 = .ok (.if_icmp .ge 13, 3) := by decide +kernel
theorem dJ7_fill_53178_10 : decode cJ7_fill_53178 10 = .ok (.aload_n 0, 1) := by decide +kernel
theorem dJ7_fill_53178_11 : decode cJ7_fill_53178 11 = .ok (.iload_n 2, 1) := by decide +kernel
theorem dJ7_fill_53178_12 : decode cJ7_fill_53178 12 = .ok (.iload_n 1, 1) := by decide +kernel
theorem dJ7_fill_53178_13 : decode cJ7_fill_53178 13 = .ok (.iastore, 1) := by decide +kernel
theorem dJ7_fill_53178_14 : decode cJ7_fill_53178 14 = .ok (.iinc 2 1, 3) := by decide +kernel
theorem dJ7_fill_53178_17 : decode cJ7_fill_53178 17 = .ok (.goto (-12), 3) := by decide +kernel
theorem dJ7_fill_53178_20 : decode cJ7_fill_53178 20 = .ok (.return_, 1) := by decide +kernel
end
section
/-! V: the machine at a program point, in terms of the cells (ws), the locals (lv) and the stack alone. Rows on V: one instruction each. -/
section VV
def Cx (p : Program) (s : State) (m : MethodId) (args : Array Value) (meth : Method) (c : Code) (cc : ByteArray) (nL : Nat) (own : String) (ret : Option FieldType) (Ts : List Cond) (D : va_G) (tys : List (ClassId × FieldType)) (A : Nat → Prop) : Prop :=
  p.tables.exec = Jvm.exec ∧ c.code = cc ∧ c.maxLocals = nL ∧ s.vm.findClass own = some m.cls ∧ (∀ w ∈ Ts, w.before args s = true) ∧ va_K D vwCl tys s ∧ (∀ q, s.heap.size ≤ q → A q) ∧ meth.sig.returnType = ret ∧ meth.locks = false
def V (p : Program) (l : Launch) (e : Env) (R : Room) (s : State) (m : MethodId) (args : Array Value) (below : List Frame) (meth : Method) (c : Code) (nL : Nat) (D : va_G) (A : Nat → Prop) (Q : State → Prop) (cells slots : Nat) (ws : va_W) (pc : Nat) (lv : List (Nat × Value)) (st : List Value) : Prop :=
  ∀ (H : Heap) (locs : List Loc) (ls : Array Slot), va_P D vwCl ws H → va_D A ws → va_S A s.heap H locs → lv_has ls nL lv → W p l e R s m args below meth c H locs cells slots Q (F0 m pc ls st)
def ck {α : Type} (i : Int32) (n : Nat) (k : Option α) : Option α := if i < 0 ∨ n ≤ i.toNatClampNeg then none else k
theorem ck_inv {α : Type} {i : Int32} {n : Nat} {k : Option α} {o : α} (h : ck i n k = some o) : vp_in i n ∧ k = some o := by
  unfold ck at h
  by_cases hc : i < 0 ∨ n ≤ i.toNatClampNeg
  · rw [if_pos hc] at h; cases h
  · rw [if_neg hc] at h; exact ⟨hc, h⟩
def nzI {α : Type} (y : Int32) (k : Option α) : Option α := if y = 0 then none else k
theorem nzI_inv {α : Type} {y : Int32} {k : Option α} {o : α} (h : nzI y k = some o) : ¬ y = 0 ∧ k = some o := by
  unfold nzI at h
  by_cases hc : y = 0
  · rw [if_pos hc] at h; cases h
  · rw [if_neg hc] at h; exact ⟨hc, h⟩
def nzL {α : Type} (y : Int64) (k : Option α) : Option α := if y = 0 then none else k
theorem nzL_inv {α : Type} {y : Int64} {k : Option α} {o : α} (h : nzL y k = some o) : ¬ y = 0 ∧ k = some o := by
  unfold nzL at h
  by_cases hc : y = 0
  · rw [if_pos hc] at h; cases h
  · rw [if_neg hc] at h; exact ⟨hc, h⟩
theorem ite_t {α : Type} {b : Prop} [Decidable b] {x y : Option α} {o : α} (hb : b) (h : (if b then x else y) = some o) : x = some o := by rw [if_pos hb] at h; exact h
theorem ite_f {α : Type} {b : Prop} [Decidable b] {x y : Option α} {o : α} (hb : ¬ b) (h : (if b then x else y) = some o) : y = some o := by rw [if_neg hb] at h; exact h
theorem bind_inv {α β : Type} {x : Option α} {f : α → Option β} {o : β} (h : x.bind f = some o) : ∃ r, x = some r ∧ f r = some o := Option.bind_eq_some_iff.mp h
/-- a copy that the machine allows -/
def ckc {α : Type} (sp dp n : Int32) (n0 n1 : Nat) (k : Option α) : Option α := if sp < 0 ∨ dp < 0 ∨ n < 0 ∨ n0 < sp.toNatClampNeg + n.toNatClampNeg ∨ n1 < dp.toNatClampNeg + n.toNatClampNeg then none else k
theorem ckc_inv {α : Type} {sp dp n : Int32} {n0 n1 : Nat} {k : Option α} {o : α} (h : ckc sp dp n n0 n1 k = some o) : (¬ sp < 0 ∧ ¬ dp < 0 ∧ ¬ n < 0 ∧ sp.toNatClampNeg + n.toNatClampNeg ≤ n0 ∧ dp.toNatClampNeg + n.toNatClampNeg ≤ n1) ∧ k = some o := by
  unfold ckc at h
  by_cases hc : sp < 0 ∨ dp < 0 ∨ n < 0 ∨ n0 < sp.toNatClampNeg + n.toNatClampNeg ∨ n1 < dp.toNatClampNeg + n.toNatClampNeg
  · rw [if_pos hc] at h; cases h
  · rw [if_neg hc] at h
    refine ⟨⟨fun q => hc (Or.inl q), fun q => hc (Or.inr (Or.inl q)), fun q => hc (Or.inr (Or.inr (Or.inl q))), ?_, ?_⟩, h⟩
    · exact Nat.not_lt.mp fun q => hc (Or.inr (Or.inr (Or.inr (Or.inl q))))
    · exact Nat.not_lt.mp fun q => hc (Or.inr (Or.inr (Or.inr (Or.inr q))))
variable {p : Program} {l : Launch} {e : Env} {R : Room} {s : State} {m : MethodId} {args : Array Value} {below : List Frame} {meth : Method} {c : Code} {nL : Nat} {D : va_G} {A : Nat → Prop} {Q : State → Prop} {cells slots : Nat} {ws : va_W} {pc : Nat} {lv : List (Nat × Value)} {st : List Value}
variable {cc : ByteArray} {own : String} {ret : Option FieldType} {Ts : List Cond} {tys : List (ClassId × FieldType)}
theorem V.sub (ks : List Nat) {lv' : List (Nat × Value)} (h : lv_pick lv ks = lv') (kk : V p l e R s m args below meth c nL D A Q cells slots ws pc lv' st) : V p l e R s m args below meth c nL D A Q cells slots ws pc lv st := fun H locs ls hP hD hS hl => kk H locs ls hP hD hS (lv_sub hl ks h)
theorem V.world {ws' : va_W} (h : ws = ws') (kk : V p l e R s m args below meth c nL D A Q cells slots ws' pc lv st) : V p l e R s m args below meth c nL D A Q cells slots ws pc lv st := by subst h; exact kk
theorem V.widen {k n : Nat} (h1 : cells ≤ k) (h2 : slots ≤ n) (kk : V p l e R s m args below meth c nL D A Q k n ws pc lv st) : V p l e R s m args below meth c nL D A Q cells slots ws pc lv st := fun H locs ls hP hD hS hl => W.widen h1 h2 (kk H locs ls hP hD hS hl)
theorem V_aload_n (C : Cx p s m args meth c cc nL own ret Ts D tys A) {k : Fin 4} {x : Nat} {pc' : Nat} (hdg : decode cc pc = .ok (.aload_n k, 1)) (j : Nat) (hj : lv[j]? = some ((k : Nat), .ref x)) (hp : pc + 1 = pc')
    (kk : V p l e R s m args below meth c nL D A Q cells slots ws pc' lv (.ref x :: st)) : V p l e R s m args below meth c nL D A Q cells slots ws pc lv (st) := by
  subst hp
  intro H locs ls hP hD hS hl
  exact lv_aload_n C.1 C.2.1 hdg rfl (lv_at hl j hj) (kk H locs ls hP hD hS hl)
theorem V_aload (C : Cx p s m args meth c cc nL own ret Ts D tys A) {k : Nat} {x : Nat} {pc' : Nat} (hdg : decode cc pc = .ok (.aload k, 2)) (j : Nat) (hj : lv[j]? = some (k, .ref x)) (hp : pc + 2 = pc')
    (kk : V p l e R s m args below meth c nL D A Q cells slots ws pc' lv (.ref x :: st)) : V p l e R s m args below meth c nL D A Q cells slots ws pc lv (st) := by
  subst hp
  intro H locs ls hP hD hS hl
  exact lv_aload C.1 C.2.1 hdg (lv_at hl j hj) (kk H locs ls hP hD hS hl)
theorem V_iload_n (C : Cx p s m args meth c cc nL own ret Ts D tys A) {k : Fin 4} {x : Int32} {pc' : Nat} (hdg : decode cc pc = .ok (.iload_n k, 1)) (j : Nat) (hj : lv[j]? = some ((k : Nat), .int x)) (hp : pc + 1 = pc')
    (kk : V p l e R s m args below meth c nL D A Q cells slots ws pc' lv (.int x :: st)) : V p l e R s m args below meth c nL D A Q cells slots ws pc lv (st) := by
  subst hp
  intro H locs ls hP hD hS hl
  exact lv_iload_n C.1 C.2.1 hdg rfl (lv_at hl j hj) (kk H locs ls hP hD hS hl)
theorem V_iload (C : Cx p s m args meth c cc nL own ret Ts D tys A) {k : Nat} {x : Int32} {pc' : Nat} (hdg : decode cc pc = .ok (.iload k, 2)) (j : Nat) (hj : lv[j]? = some (k, .int x)) (hp : pc + 2 = pc')
    (kk : V p l e R s m args below meth c nL D A Q cells slots ws pc' lv (.int x :: st)) : V p l e R s m args below meth c nL D A Q cells slots ws pc lv (st) := by
  subst hp
  intro H locs ls hP hD hS hl
  exact lv_iload C.1 C.2.1 hdg (lv_at hl j hj) (kk H locs ls hP hD hS hl)
theorem V_lload_n (C : Cx p s m args meth c cc nL own ret Ts D tys A) {k : Fin 4} {x : Int64} {pc' : Nat} (hdg : decode cc pc = .ok (.lload_n k, 1)) (j : Nat) (hj : lv[j]? = some ((k : Nat), .long x)) (hp : pc + 1 = pc')
    (kk : V p l e R s m args below meth c nL D A Q cells slots ws pc' lv (.long x :: st)) : V p l e R s m args below meth c nL D A Q cells slots ws pc lv (st) := by
  subst hp
  intro H locs ls hP hD hS hl
  exact lv_lload_n C.1 C.2.1 hdg rfl (lv_at hl j hj) (kk H locs ls hP hD hS hl)
theorem V_lload (C : Cx p s m args meth c cc nL own ret Ts D tys A) {k : Nat} {x : Int64} {pc' : Nat} (hdg : decode cc pc = .ok (.lload k, 2)) (j : Nat) (hj : lv[j]? = some (k, .long x)) (hp : pc + 2 = pc')
    (kk : V p l e R s m args below meth c nL D A Q cells slots ws pc' lv (.long x :: st)) : V p l e R s m args below meth c nL D A Q cells slots ws pc lv (st) := by
  subst hp
  intro H locs ls hP hD hS hl
  exact lv_lload C.1 C.2.1 hdg (lv_at hl j hj) (kk H locs ls hP hD hS hl)
theorem V_iconst (C : Cx p s m args meth c cc nL own ret Ts D tys A) {n : Int} {v : Int32} {pc' : Nat} (hdg : decode cc pc = .ok (.iconst n, 1)) (hv : Int32.ofInt n = v) (hp : pc + 1 = pc')
    (kk : V p l e R s m args below meth c nL D A Q cells slots ws pc' lv (.int v :: st)) : V p l e R s m args below meth c nL D A Q cells slots ws pc lv (st) := by
  subst hp
  intro H locs ls hP hD hS hl
  exact lv_iconst C.1 C.2.1 hdg hv (kk H locs ls hP hD hS hl)
theorem V_bipush (C : Cx p s m args meth c cc nL own ret Ts D tys A) {n : Int} {v : Int32} {pc' : Nat} (hdg : decode cc pc = .ok (.bipush n, 2)) (hv : (Int8.ofInt n).toInt32 = v) (hp : pc + 2 = pc')
    (kk : V p l e R s m args below meth c nL D A Q cells slots ws pc' lv (.int v :: st)) : V p l e R s m args below meth c nL D A Q cells slots ws pc lv (st) := by
  subst hp
  intro H locs ls hP hD hS hl
  exact lv_bipush C.1 C.2.1 hdg hv (kk H locs ls hP hD hS hl)
theorem V_sipush (C : Cx p s m args meth c cc nL own ret Ts D tys A) {n : Int} {v : Int32} {pc' : Nat} (hdg : decode cc pc = .ok (.sipush n, 3)) (hv : (Int16.ofInt n).toInt32 = v) (hp : pc + 3 = pc')
    (kk : V p l e R s m args below meth c nL D A Q cells slots ws pc' lv (.int v :: st)) : V p l e R s m args below meth c nL D A Q cells slots ws pc lv (st) := by
  subst hp
  intro H locs ls hP hD hS hl
  exact lv_sipush C.1 C.2.1 hdg hv (kk H locs ls hP hD hS hl)
theorem V_lconst (C : Cx p s m args meth c cc nL own ret Ts D tys A) {n : Fin 2} {v : Int64} {pc' : Nat} (hdg : decode cc pc = .ok (.lconst n, 1)) (hv : Int64.ofNat (n : Nat) = v) (hp : pc + 1 = pc')
    (kk : V p l e R s m args below meth c nL D A Q cells slots ws pc' lv (.long v :: st)) : V p l e R s m args below meth c nL D A Q cells slots ws pc lv (st) := by
  subst hp
  intro H locs ls hP hD hS hl
  exact lv_lconst C.1 C.2.1 hdg hv (kk H locs ls hP hD hS hl)
theorem V_ldc (C : Cx p s m args meth c cc nL own ret Ts D tys A) {index : Nat} {v : Int32} {pc' : Nat} (hdg : decode cc pc = .ok (.ldc index, 2)) (hw : Jvm.Cond.constant own index v ∈ Ts) (hp : pc + 2 = pc')
    (kk : V p l e R s m args below meth c nL D A Q cells slots ws pc' lv (.int v :: st)) : V p l e R s m args below meth c nL D A Q cells slots ws pc lv (st) := by
  subst hp
  intro H locs ls hP hD hS hl
  exact lv_ldc C.1 C.2.1 C.2.2.2.1 (C.2.2.2.2.1 _ hw) hdg (kk H locs ls hP hD hS hl)
theorem V_ldc2 (C : Cx p s m args meth c cc nL own ret Ts D tys A) {index : Nat} {v : Int64} {pc' : Nat} (hdg : decode cc pc = .ok (.ldc2_w index, 3)) (hw : Jvm.Cond.constantLong own index v ∈ Ts) (hp : pc + 3 = pc')
    (kk : V p l e R s m args below meth c nL D A Q cells slots ws pc' lv (.long v :: st)) : V p l e R s m args below meth c nL D A Q cells slots ws pc lv (st) := by
  subst hp
  intro H locs ls hP hD hS hl
  exact lv_ldc2 C.1 C.2.1 C.2.2.2.1 (C.2.2.2.2.1 _ hw) hdg (kk H locs ls hP hD hS hl)
theorem V_astore_n (C : Cx p s m args meth c cc nL own ret Ts D tys A) {k : Fin 4} {i : Nat} {x : Nat} {lv' : List (Nat × Value)} {pc' : Nat} (hdg : decode cc pc = .ok (.astore_n k, 1)) (hi : (k : Nat) = i) (hn : i < nL) (hq : (i, Value.ref x) :: lv.filter (fun q => !(q.1 == i) && !(q.1 + 1 == i && q.2.category == 2)) = lv') (hp : pc + 1 = pc')
    (kk : V p l e R s m args below meth c nL D A Q cells slots ws pc' lv' (st)) : V p l e R s m args below meth c nL D A Q cells slots ws pc lv (.ref x :: st) := by
  subst hp
  intro H locs ls hP hD hS hl
  exact lv_astore_n C.1 C.2.1 hdg hi hl hn hq (fun ls hl => kk H locs ls hP hD hS hl)
theorem V_istore_n (C : Cx p s m args meth c cc nL own ret Ts D tys A) {k : Fin 4} {i : Nat} {x : Int32} {lv' : List (Nat × Value)} {pc' : Nat} (hdg : decode cc pc = .ok (.istore_n k, 1)) (hi : (k : Nat) = i) (hn : i < nL) (hq : (i, Value.int x) :: lv.filter (fun q => !(q.1 == i) && !(q.1 + 1 == i && q.2.category == 2)) = lv') (hp : pc + 1 = pc')
    (kk : V p l e R s m args below meth c nL D A Q cells slots ws pc' lv' (st)) : V p l e R s m args below meth c nL D A Q cells slots ws pc lv (.int x :: st) := by
  subst hp
  intro H locs ls hP hD hS hl
  exact lv_istore_n C.1 C.2.1 hdg hi hl hn hq (fun ls hl => kk H locs ls hP hD hS hl)
theorem V_istore (C : Cx p s m args meth c cc nL own ret Ts D tys A) {i : Nat} {x : Int32} {lv' : List (Nat × Value)} {pc' : Nat} (hdg : decode cc pc = .ok (.istore i, 2)) (hn : i < nL) (hq : (i, Value.int x) :: lv.filter (fun q => !(q.1 == i) && !(q.1 + 1 == i && q.2.category == 2)) = lv') (hp : pc + 2 = pc')
    (kk : V p l e R s m args below meth c nL D A Q cells slots ws pc' lv' (st)) : V p l e R s m args below meth c nL D A Q cells slots ws pc lv (.int x :: st) := by
  subst hp
  intro H locs ls hP hD hS hl
  exact lv_istore C.1 C.2.1 hdg hl hn hq (fun ls hl => kk H locs ls hP hD hS hl)
theorem V_lstore_n (C : Cx p s m args meth c cc nL own ret Ts D tys A) {k : Fin 4} {i : Nat} {x : Int64} {lv' : List (Nat × Value)} {pc' : Nat} (hdg : decode cc pc = .ok (.lstore_n k, 1)) (hi : (k : Nat) = i) (hn : i + 1 < nL) (hq : (i, Value.long x) :: lv.filter (fun q => !(q.1 == i) && (!(q.1 == i + 1) && !(q.1 + 1 == i && q.2.category == 2))) = lv') (hp : pc + 1 = pc')
    (kk : V p l e R s m args below meth c nL D A Q cells slots ws pc' lv' (st)) : V p l e R s m args below meth c nL D A Q cells slots ws pc lv (.long x :: st) := by
  subst hp
  intro H locs ls hP hD hS hl
  exact lv_lstore_n C.1 C.2.1 hdg hi hl hn hq (fun ls hl => kk H locs ls hP hD hS hl)
theorem V_lstore (C : Cx p s m args meth c cc nL own ret Ts D tys A) {i : Nat} {x : Int64} {lv' : List (Nat × Value)} {pc' : Nat} (hdg : decode cc pc = .ok (.lstore i, 2)) (hn : i + 1 < nL) (hq : (i, Value.long x) :: lv.filter (fun q => !(q.1 == i) && (!(q.1 == i + 1) && !(q.1 + 1 == i && q.2.category == 2))) = lv') (hp : pc + 2 = pc')
    (kk : V p l e R s m args below meth c nL D A Q cells slots ws pc' lv' (st)) : V p l e R s m args below meth c nL D A Q cells slots ws pc lv (.long x :: st) := by
  subst hp
  intro H locs ls hP hD hS hl
  exact lv_lstore C.1 C.2.1 hdg hl hn hq (fun ls hl => kk H locs ls hP hD hS hl)
theorem V_iinc (C : Cx p s m args meth c cc nL own ret Ts D tys A) {i k : Nat} {n : Int} {x v : Int32} {lv' : List (Nat × Value)} {pc' : Nat} (hdg : decode cc pc = .ok (.iinc i n, 3)) (hk : lv[k]? = some (i, .int x)) (hv : x + Int32.ofInt n = v) (hn : i < nL) (hq : (i, Value.int v) :: lv.filter (fun q => !(q.1 == i) && !(q.1 + 1 == i && q.2.category == 2)) = lv') (hp : pc + 3 = pc')
    (kk : V p l e R s m args below meth c nL D A Q cells slots ws pc' lv' (st)) : V p l e R s m args below meth c nL D A Q cells slots ws pc lv (st) := by
  subst hp
  intro H locs ls hP hD hS hl
  exact lv_iinc C.1 C.2.1 hdg hl (k := k) hk hv hn hq (fun ls hl => kk H locs ls hP hD hS hl)
theorem V_iadd (C : Cx p s m args meth c cc nL own ret Ts D tys A) {x y : Int32} {pc' : Nat} (hdg : decode cc pc = .ok (.iadd, 1))  (hp : pc + 1 = pc')
    (kk : V p l e R s m args below meth c nL D A Q cells slots ws pc' lv (.int (x + y) :: st)) : V p l e R s m args below meth c nL D A Q cells slots ws pc lv (.int y :: .int x :: st) := by
  subst hp
  intro H locs ls hP hD hS hl
  exact lv_iadd C.1 C.2.1 hdg (kk H locs ls hP hD hS hl)
theorem V_isub (C : Cx p s m args meth c cc nL own ret Ts D tys A) {x y : Int32} {pc' : Nat} (hdg : decode cc pc = .ok (.isub, 1))  (hp : pc + 1 = pc')
    (kk : V p l e R s m args below meth c nL D A Q cells slots ws pc' lv (.int (x - y) :: st)) : V p l e R s m args below meth c nL D A Q cells slots ws pc lv (.int y :: .int x :: st) := by
  subst hp
  intro H locs ls hP hD hS hl
  exact lv_isub C.1 C.2.1 hdg (kk H locs ls hP hD hS hl)
theorem V_imul (C : Cx p s m args meth c cc nL own ret Ts D tys A) {x y : Int32} {pc' : Nat} (hdg : decode cc pc = .ok (.imul, 1))  (hp : pc + 1 = pc')
    (kk : V p l e R s m args below meth c nL D A Q cells slots ws pc' lv (.int (x * y) :: st)) : V p l e R s m args below meth c nL D A Q cells slots ws pc lv (.int y :: .int x :: st) := by
  subst hp
  intro H locs ls hP hD hS hl
  exact lv_imul C.1 C.2.1 hdg (kk H locs ls hP hD hS hl)
theorem V_iand (C : Cx p s m args meth c cc nL own ret Ts D tys A) {x y : Int32} {pc' : Nat} (hdg : decode cc pc = .ok (.iand, 1))  (hp : pc + 1 = pc')
    (kk : V p l e R s m args below meth c nL D A Q cells slots ws pc' lv (.int (x &&& y) :: st)) : V p l e R s m args below meth c nL D A Q cells slots ws pc lv (.int y :: .int x :: st) := by
  subst hp
  intro H locs ls hP hD hS hl
  exact lv_iand C.1 C.2.1 hdg (kk H locs ls hP hD hS hl)
theorem V_ior (C : Cx p s m args meth c cc nL own ret Ts D tys A) {x y : Int32} {pc' : Nat} (hdg : decode cc pc = .ok (.ior, 1))  (hp : pc + 1 = pc')
    (kk : V p l e R s m args below meth c nL D A Q cells slots ws pc' lv (.int (x ||| y) :: st)) : V p l e R s m args below meth c nL D A Q cells slots ws pc lv (.int y :: .int x :: st) := by
  subst hp
  intro H locs ls hP hD hS hl
  exact lv_ior C.1 C.2.1 hdg (kk H locs ls hP hD hS hl)
theorem V_ishl (C : Cx p s m args meth c cc nL own ret Ts D tys A) {x y : Int32} {pc' : Nat} (hdg : decode cc pc = .ok (.ishl, 1))  (hp : pc + 1 = pc')
    (kk : V p l e R s m args below meth c nL D A Q cells slots ws pc' lv (.int (x <<< (y &&& 31)) :: st)) : V p l e R s m args below meth c nL D A Q cells slots ws pc lv (.int y :: .int x :: st) := by
  subst hp
  intro H locs ls hP hD hS hl
  exact lv_ishl C.1 C.2.1 hdg (kk H locs ls hP hD hS hl)
theorem V_ishr (C : Cx p s m args meth c cc nL own ret Ts D tys A) {x y : Int32} {pc' : Nat} (hdg : decode cc pc = .ok (.ishr, 1))  (hp : pc + 1 = pc')
    (kk : V p l e R s m args below meth c nL D A Q cells slots ws pc' lv (.int (x >>> (y &&& 31)) :: st)) : V p l e R s m args below meth c nL D A Q cells slots ws pc lv (.int y :: .int x :: st) := by
  subst hp
  intro H locs ls hP hD hS hl
  exact lv_ishr C.1 C.2.1 hdg (kk H locs ls hP hD hS hl)
theorem V_ladd (C : Cx p s m args meth c cc nL own ret Ts D tys A) {x y : Int64} {pc' : Nat} (hdg : decode cc pc = .ok (.ladd, 1))  (hp : pc + 1 = pc')
    (kk : V p l e R s m args below meth c nL D A Q cells slots ws pc' lv (.long (x + y) :: st)) : V p l e R s m args below meth c nL D A Q cells slots ws pc lv (.long y :: .long x :: st) := by
  subst hp
  intro H locs ls hP hD hS hl
  exact lv_ladd C.1 C.2.1 hdg (kk H locs ls hP hD hS hl)
theorem V_lmul (C : Cx p s m args meth c cc nL own ret Ts D tys A) {x y : Int64} {pc' : Nat} (hdg : decode cc pc = .ok (.lmul, 1))  (hp : pc + 1 = pc')
    (kk : V p l e R s m args below meth c nL D A Q cells slots ws pc' lv (.long (x * y) :: st)) : V p l e R s m args below meth c nL D A Q cells slots ws pc lv (.long y :: .long x :: st) := by
  subst hp
  intro H locs ls hP hD hS hl
  exact lv_lmul C.1 C.2.1 hdg (kk H locs ls hP hD hS hl)
theorem V_land (C : Cx p s m args meth c cc nL own ret Ts D tys A) {x y : Int64} {pc' : Nat} (hdg : decode cc pc = .ok (.land, 1))  (hp : pc + 1 = pc')
    (kk : V p l e R s m args below meth c nL D A Q cells slots ws pc' lv (.long (x &&& y) :: st)) : V p l e R s m args below meth c nL D A Q cells slots ws pc lv (.long y :: .long x :: st) := by
  subst hp
  intro H locs ls hP hD hS hl
  exact lv_land C.1 C.2.1 hdg (kk H locs ls hP hD hS hl)
theorem V_lor (C : Cx p s m args meth c cc nL own ret Ts D tys A) {x y : Int64} {pc' : Nat} (hdg : decode cc pc = .ok (.lor, 1))  (hp : pc + 1 = pc')
    (kk : V p l e R s m args below meth c nL D A Q cells slots ws pc' lv (.long (x ||| y) :: st)) : V p l e R s m args below meth c nL D A Q cells slots ws pc lv (.long y :: .long x :: st) := by
  subst hp
  intro H locs ls hP hD hS hl
  exact lv_lor C.1 C.2.1 hdg (kk H locs ls hP hD hS hl)
theorem V_idiv (C : Cx p s m args meth c cc nL own ret Ts D tys A) {x y : Int32} {pc' : Nat} (hdg : decode cc pc = .ok (.idiv, 1)) (hne : ¬ y = 0) (hp : pc + 1 = pc')
    (kk : V p l e R s m args below meth c nL D A Q cells slots ws pc' lv (.int (x / y) :: st)) : V p l e R s m args below meth c nL D A Q cells slots ws pc lv (.int y :: .int x :: st) := by
  subst hp
  intro H locs ls hP hD hS hl
  exact lv_idiv C.1 C.2.1 hdg hne (kk H locs ls hP hD hS hl)
theorem V_irem (C : Cx p s m args meth c cc nL own ret Ts D tys A) {x y : Int32} {pc' : Nat} (hdg : decode cc pc = .ok (.irem, 1)) (hne : ¬ y = 0) (hp : pc + 1 = pc')
    (kk : V p l e R s m args below meth c nL D A Q cells slots ws pc' lv (.int (x - x / y * y) :: st)) : V p l e R s m args below meth c nL D A Q cells slots ws pc lv (.int y :: .int x :: st) := by
  subst hp
  intro H locs ls hP hD hS hl
  exact lv_irem C.1 C.2.1 hdg hne (kk H locs ls hP hD hS hl)
theorem V_ldiv (C : Cx p s m args meth c cc nL own ret Ts D tys A) {x y : Int64} {pc' : Nat} (hdg : decode cc pc = .ok (.ldiv, 1)) (hne : ¬ y = 0) (hp : pc + 1 = pc')
    (kk : V p l e R s m args below meth c nL D A Q cells slots ws pc' lv (.long (x / y) :: st)) : V p l e R s m args below meth c nL D A Q cells slots ws pc lv (.long y :: .long x :: st) := by
  subst hp
  intro H locs ls hP hD hS hl
  exact lv_ldiv C.1 C.2.1 hdg hne (kk H locs ls hP hD hS hl)
theorem V_i2l (C : Cx p s m args meth c cc nL own ret Ts D tys A) {x : Int32} {pc' : Nat} (hdg : decode cc pc = .ok (.i2l, 1))  (hp : pc + 1 = pc')
    (kk : V p l e R s m args below meth c nL D A Q cells slots ws pc' lv (.long x.toInt64 :: st)) : V p l e R s m args below meth c nL D A Q cells slots ws pc lv (.int x :: st) := by
  subst hp
  intro H locs ls hP hD hS hl
  exact lv_i2l C.1 C.2.1 hdg rfl (kk H locs ls hP hD hS hl)
theorem V_l2i (C : Cx p s m args meth c cc nL own ret Ts D tys A) {x : Int64} {pc' : Nat} (hdg : decode cc pc = .ok (.l2i, 1))  (hp : pc + 1 = pc')
    (kk : V p l e R s m args below meth c nL D A Q cells slots ws pc' lv (.int x.toInt32 :: st)) : V p l e R s m args below meth c nL D A Q cells slots ws pc lv (.long x :: st) := by
  subst hp
  intro H locs ls hP hD hS hl
  exact lv_l2i C.1 C.2.1 hdg rfl (kk H locs ls hP hD hS hl)
theorem V_lshl (C : Cx p s m args meth c cc nL own ret Ts D tys A) {x : Int64} {y : Int32} {pc' : Nat} (hdg : decode cc pc = .ok (.lshl, 1))  (hp : pc + 1 = pc')
    (kk : V p l e R s m args below meth c nL D A Q cells slots ws pc' lv (.long (x <<< (y.toInt64 &&& 63)) :: st)) : V p l e R s m args below meth c nL D A Q cells slots ws pc lv (.int y :: .long x :: st) := by
  subst hp
  intro H locs ls hP hD hS hl
  exact lv_lshl C.1 C.2.1 hdg rfl (kk H locs ls hP hD hS hl)
theorem V_lushr (C : Cx p s m args meth c cc nL own ret Ts D tys A) {x : Int64} {y : Int32} {pc' : Nat} (hdg : decode cc pc = .ok (.lushr, 1))  (hp : pc + 1 = pc')
    (kk : V p l e R s m args below meth c nL D A Q cells slots ws pc' lv (.long ((x.toUInt64 >>> (y.toInt64.toUInt64 &&& Int64.toUInt64 63)).toInt64) :: st)) : V p l e R s m args below meth c nL D A Q cells slots ws pc lv (.int y :: .long x :: st) := by
  subst hp
  intro H locs ls hP hD hS hl
  exact lv_lushr C.1 C.2.1 hdg rfl (kk H locs ls hP hD hS hl)
theorem V_lcmp (C : Cx p s m args meth c cc nL own ret Ts D tys A) {x y : Int64} {pc' : Nat} (hdg : decode cc pc = .ok (.lcmp, 1))  (hp : pc + 1 = pc')
    (kk : V p l e R s m args below meth c nL D A Q cells slots ws pc' lv (.int (lg_cmp x y) :: st)) : V p l e R s m args below meth c nL D A Q cells slots ws pc lv (.long y :: .long x :: st) := by
  subst hp
  intro H locs ls hP hD hS hl
  exact W.lcmp C.1 C.2.1 hdg (kk H locs ls hP hD hS hl)
theorem V_dup (C : Cx p s m args meth c cc nL own ret Ts D tys A) {va : Value} {pc' : Nat} (hdg : decode cc pc = .ok (.dup, 1)) (hva : va.category = 1) (hp : pc + 1 = pc')
    (kk : V p l e R s m args below meth c nL D A Q cells slots ws pc' lv (va :: va :: st)) : V p l e R s m args below meth c nL D A Q cells slots ws pc lv (va :: st) := by
  subst hp
  intro H locs ls hP hD hS hl
  exact lv_dup C.1 C.2.1 hdg hva (kk H locs ls hP hD hS hl)
theorem V_dup2_11 (C : Cx p s m args meth c cc nL own ret Ts D tys A) {va vb : Value} {pc' : Nat} (hdg : decode cc pc = .ok (.dup2, 1)) (hva : va.category = 1) (hvb : vb.category = 1) (hp : pc + 1 = pc')
    (kk : V p l e R s m args below meth c nL D A Q cells slots ws pc' lv (va :: vb :: va :: vb :: st)) : V p l e R s m args below meth c nL D A Q cells slots ws pc lv (va :: vb :: st) := by
  subst hp
  intro H locs ls hP hD hS hl
  exact lv_dup2_11 C.1 C.2.1 hdg hva hvb (kk H locs ls hP hD hS hl)
theorem V_pop (C : Cx p s m args meth c cc nL own ret Ts D tys A) {va : Value} {pc' : Nat} (hdg : decode cc pc = .ok (.pop, 1)) (hva : va.category = 1) (hp : pc + 1 = pc')
    (kk : V p l e R s m args below meth c nL D A Q cells slots ws pc' lv (st)) : V p l e R s m args below meth c nL D A Q cells slots ws pc lv (va :: st) := by
  subst hp
  intro H locs ls hP hD hS hl
  exact lv_pop C.1 C.2.1 hdg hva (kk H locs ls hP hD hS hl)
theorem V_goto (C : Cx p s m args meth c cc nL own ret Ts D tys A) {off : Int} {tgt : Nat} (hdg : decode cc pc = .ok (.goto off, 3)) (ht : (pc : Int) + off = (tgt : Int)) (kk : V p l e R s m args below meth c nL D A Q cells slots ws tgt lv st) : V p l e R s m args below meth c nL D A Q cells slots ws pc lv st := fun H locs ls hP hD hS hl => lv_goto C.1 C.2.1 hdg ht (kk H locs ls hP hD hS hl)
theorem V_icmp_eq (C : Cx p s m args meth c cc nL own ret Ts D tys A) {x y : Int32} {off : Int} {tgt pc' : Nat} (hdg : decode cc pc = .ok (.if_icmp .eq off, 3)) (ht : (pc : Int) + off = (tgt : Int)) (hp : pc + 3 = pc')
    (kt : x = y → V p l e R s m args below meth c nL D A Q cells slots ws tgt lv st) (kf : ¬ x = y → V p l e R s m args below meth c nL D A Q cells slots ws pc' lv st) : V p l e R s m args below meth c nL D A Q cells slots ws pc lv (.int y :: .int x :: st) := by
  subst hp
  exact fun H locs ls hP hD hS hl => lv_icmp_eq C.1 C.2.1 hdg ht (fun q => kt q H locs ls hP hD hS hl) (fun q => kf q H locs ls hP hD hS hl)
theorem V_icmp_ne (C : Cx p s m args meth c cc nL own ret Ts D tys A) {x y : Int32} {off : Int} {tgt pc' : Nat} (hdg : decode cc pc = .ok (.if_icmp .ne off, 3)) (ht : (pc : Int) + off = (tgt : Int)) (hp : pc + 3 = pc')
    (kt : ¬ x = y → V p l e R s m args below meth c nL D A Q cells slots ws tgt lv st) (kf : x = y → V p l e R s m args below meth c nL D A Q cells slots ws pc' lv st) : V p l e R s m args below meth c nL D A Q cells slots ws pc lv (.int y :: .int x :: st) := by
  subst hp
  exact fun H locs ls hP hD hS hl => lv_icmp_ne C.1 C.2.1 hdg ht (fun q => kt q H locs ls hP hD hS hl) (fun q => kf q H locs ls hP hD hS hl)
theorem V_icmp_lt (C : Cx p s m args meth c cc nL own ret Ts D tys A) {x y : Int32} {off : Int} {tgt pc' : Nat} (hdg : decode cc pc = .ok (.if_icmp .lt off, 3)) (ht : (pc : Int) + off = (tgt : Int)) (hp : pc + 3 = pc')
    (kt : x < y → V p l e R s m args below meth c nL D A Q cells slots ws tgt lv st) (kf : ¬ x < y → V p l e R s m args below meth c nL D A Q cells slots ws pc' lv st) : V p l e R s m args below meth c nL D A Q cells slots ws pc lv (.int y :: .int x :: st) := by
  subst hp
  exact fun H locs ls hP hD hS hl => lv_icmp_lt C.1 C.2.1 hdg ht (fun q => kt q H locs ls hP hD hS hl) (fun q => kf q H locs ls hP hD hS hl)
theorem V_icmp_ge (C : Cx p s m args meth c cc nL own ret Ts D tys A) {x y : Int32} {off : Int} {tgt pc' : Nat} (hdg : decode cc pc = .ok (.if_icmp .ge off, 3)) (ht : (pc : Int) + off = (tgt : Int)) (hp : pc + 3 = pc')
    (kt : y ≤ x → V p l e R s m args below meth c nL D A Q cells slots ws tgt lv st) (kf : ¬ y ≤ x → V p l e R s m args below meth c nL D A Q cells slots ws pc' lv st) : V p l e R s m args below meth c nL D A Q cells slots ws pc lv (.int y :: .int x :: st) := by
  subst hp
  exact fun H locs ls hP hD hS hl => lv_icmp_ge C.1 C.2.1 hdg ht (fun q => kt q H locs ls hP hD hS hl) (fun q => kf q H locs ls hP hD hS hl)
theorem V_icmp_gt (C : Cx p s m args meth c cc nL own ret Ts D tys A) {x y : Int32} {off : Int} {tgt pc' : Nat} (hdg : decode cc pc = .ok (.if_icmp .gt off, 3)) (ht : (pc : Int) + off = (tgt : Int)) (hp : pc + 3 = pc')
    (kt : y < x → V p l e R s m args below meth c nL D A Q cells slots ws tgt lv st) (kf : ¬ y < x → V p l e R s m args below meth c nL D A Q cells slots ws pc' lv st) : V p l e R s m args below meth c nL D A Q cells slots ws pc lv (.int y :: .int x :: st) := by
  subst hp
  exact fun H locs ls hP hD hS hl => lv_icmp_gt C.1 C.2.1 hdg ht (fun q => kt q H locs ls hP hD hS hl) (fun q => kf q H locs ls hP hD hS hl)
theorem V_icmp_le (C : Cx p s m args meth c cc nL own ret Ts D tys A) {x y : Int32} {off : Int} {tgt pc' : Nat} (hdg : decode cc pc = .ok (.if_icmp .le off, 3)) (ht : (pc : Int) + off = (tgt : Int)) (hp : pc + 3 = pc')
    (kt : x ≤ y → V p l e R s m args below meth c nL D A Q cells slots ws tgt lv st) (kf : ¬ x ≤ y → V p l e R s m args below meth c nL D A Q cells slots ws pc' lv st) : V p l e R s m args below meth c nL D A Q cells slots ws pc lv (.int y :: .int x :: st) := by
  subst hp
  exact fun H locs ls hP hD hS hl => lv_icmp_le C.1 C.2.1 hdg ht (fun q => kt q H locs ls hP hD hS hl) (fun q => kf q H locs ls hP hD hS hl)
theorem V_if_eq (C : Cx p s m args meth c cc nL own ret Ts D tys A) {x : Int32} {off : Int} {tgt pc' : Nat} (hdg : decode cc pc = .ok (.ifCond .eq off, 3)) (ht : (pc : Int) + off = (tgt : Int)) (hp : pc + 3 = pc')
    (kt : x = 0 → V p l e R s m args below meth c nL D A Q cells slots ws tgt lv st) (kf : ¬ x = 0 → V p l e R s m args below meth c nL D A Q cells slots ws pc' lv st) : V p l e R s m args below meth c nL D A Q cells slots ws pc lv (.int x :: st) := by
  subst hp
  exact fun H locs ls hP hD hS hl => lv_if_eq C.1 C.2.1 hdg ht (fun q => kt q H locs ls hP hD hS hl) (fun q => kf q H locs ls hP hD hS hl)
theorem V_if_ne (C : Cx p s m args meth c cc nL own ret Ts D tys A) {x : Int32} {off : Int} {tgt pc' : Nat} (hdg : decode cc pc = .ok (.ifCond .ne off, 3)) (ht : (pc : Int) + off = (tgt : Int)) (hp : pc + 3 = pc')
    (kt : ¬ x = 0 → V p l e R s m args below meth c nL D A Q cells slots ws tgt lv st) (kf : x = 0 → V p l e R s m args below meth c nL D A Q cells slots ws pc' lv st) : V p l e R s m args below meth c nL D A Q cells slots ws pc lv (.int x :: st) := by
  subst hp
  exact fun H locs ls hP hD hS hl => lv_if_ne C.1 C.2.1 hdg ht (fun q => kt q H locs ls hP hD hS hl) (fun q => kf q H locs ls hP hD hS hl)
theorem V_if_lt (C : Cx p s m args meth c cc nL own ret Ts D tys A) {x : Int32} {off : Int} {tgt pc' : Nat} (hdg : decode cc pc = .ok (.ifCond .lt off, 3)) (ht : (pc : Int) + off = (tgt : Int)) (hp : pc + 3 = pc')
    (kt : x < 0 → V p l e R s m args below meth c nL D A Q cells slots ws tgt lv st) (kf : ¬ x < 0 → V p l e R s m args below meth c nL D A Q cells slots ws pc' lv st) : V p l e R s m args below meth c nL D A Q cells slots ws pc lv (.int x :: st) := by
  subst hp
  exact fun H locs ls hP hD hS hl => lv_if_lt C.1 C.2.1 hdg ht (fun q => kt q H locs ls hP hD hS hl) (fun q => kf q H locs ls hP hD hS hl)
theorem V_if_ge (C : Cx p s m args meth c cc nL own ret Ts D tys A) {x : Int32} {off : Int} {tgt pc' : Nat} (hdg : decode cc pc = .ok (.ifCond .ge off, 3)) (ht : (pc : Int) + off = (tgt : Int)) (hp : pc + 3 = pc')
    (kt : 0 ≤ x → V p l e R s m args below meth c nL D A Q cells slots ws tgt lv st) (kf : ¬ 0 ≤ x → V p l e R s m args below meth c nL D A Q cells slots ws pc' lv st) : V p l e R s m args below meth c nL D A Q cells slots ws pc lv (.int x :: st) := by
  subst hp
  exact fun H locs ls hP hD hS hl => lv_if_ge C.1 C.2.1 hdg ht (fun q => kt q H locs ls hP hD hS hl) (fun q => kf q H locs ls hP hD hS hl)
theorem V_if_gt (C : Cx p s m args meth c cc nL own ret Ts D tys A) {x : Int32} {off : Int} {tgt pc' : Nat} (hdg : decode cc pc = .ok (.ifCond .gt off, 3)) (ht : (pc : Int) + off = (tgt : Int)) (hp : pc + 3 = pc')
    (kt : 0 < x → V p l e R s m args below meth c nL D A Q cells slots ws tgt lv st) (kf : ¬ 0 < x → V p l e R s m args below meth c nL D A Q cells slots ws pc' lv st) : V p l e R s m args below meth c nL D A Q cells slots ws pc lv (.int x :: st) := by
  subst hp
  exact fun H locs ls hP hD hS hl => lv_if_gt C.1 C.2.1 hdg ht (fun q => kt q H locs ls hP hD hS hl) (fun q => kf q H locs ls hP hD hS hl)
theorem V_if_le (C : Cx p s m args meth c cc nL own ret Ts D tys A) {x : Int32} {off : Int} {tgt pc' : Nat} (hdg : decode cc pc = .ok (.ifCond .le off, 3)) (ht : (pc : Int) + off = (tgt : Int)) (hp : pc + 3 = pc')
    (kt : x ≤ 0 → V p l e R s m args below meth c nL D A Q cells slots ws tgt lv st) (kf : ¬ x ≤ 0 → V p l e R s m args below meth c nL D A Q cells slots ws pc' lv st) : V p l e R s m args below meth c nL D A Q cells slots ws pc lv (.int x :: st) := by
  subst hp
  exact fun H locs ls hP hD hS hl => lv_if_le C.1 C.2.1 hdg ht (fun q => kt q H locs ls hP hD hS hl) (fun q => kf q H locs ls hP hD hS hl)
/-- a field's word and its class's words, among a method's -/
def FL (own : String) (Ts : List Cond) (ci idx k : Nat) (Cn : String) (T : u_T) (N : Nat) : Prop := (∀ w ∈ u_ws Cn T N, w ∈ Ts) ∧ vwCl[ci]? = some (Cn, T, N) ∧ k < N ∧ Cond.fieldLink own idx Cn (T k).2.1 (T k).2.2.1 ∈ Ts ∧ (T k).1 = Cn
theorem V_get (C : Cx p s m args meth c cc nL own ret Ts D tys A) {ci idx k : Nat} {Cn : String} {T : u_T} {N : Nat} (F : FL own Ts ci idx k Cn T N) (q0 : Nat) {a : Nat} {fs : List Value} {v : Value} (he : ws[q0]? = some (a, .inr (ci, fs))) (hv : fs[k]? = some v) {pc' : Nat} (hdg : decode cc pc = .ok (.getfield idx, 3)) (hp : pc + 3 = pc')
    (kk : V p l e R s m args below meth c nL D A Q cells slots ws pc' lv (v :: st)) : V p l e R s m args below meth c nL D A Q cells slots ws pc lv (.ref a :: st) := by
  subst hp
  intro H locs ls hP hD hS hl
  obtain ⟨F1, F2, F3, F4, F5⟩ := F
  exact va_get C.1 C.2.1 C.2.2.2.2.1 F1 C.2.2.2.1 C.2.2.2.2.2.1 hP q0 he F2 k F3 (C.2.2.2.2.1 _ F4) (fun _ h9 => by rw [F5] at h9; exact h9) hv hdg (kk H locs ls hP hD hS hl)
theorem V_put (C : Cx p s m args meth c cc nL own ret Ts D tys A) {ci idx k : Nat} {Cn : String} {T : u_T} {N : Nat} (F : FL own Ts ci idx k Cn T N) {ty0 : Nat → FieldType} (hty : ∀ k, k < N → parseFieldDescriptor (T k).2.2.1 = some (ty0 k)) (hnm : ∀ a, a < N → ∀ b, b < N → a ≠ b → (T a).2.1 ≠ (T b).2.1) (hfin : (T k).2.2.2 = false) (q0 : Nat) {a : Nat} {fs : List Value} {v : Value} (he : ws[q0]? = some (a, .inr (ci, fs))) (hn : narrow (ty0 k) v = v) (hfit : fits (ty0 k) v = true) (hl : k < fs.length) {pc' : Nat} (hdg : decode cc pc = .ok (.putfield idx, 3)) (hp : pc + 3 = pc') {ws' : va_W} (hw : ws.set q0 (a, .inr (ci, fs.set k v)) = ws')
    (kk : V p l e R s m args below meth c nL D A Q cells slots ws' pc' lv st) : V p l e R s m args below meth c nL D A Q cells slots ws pc lv (v :: .ref a :: st) := by
  subst hp; subst hw
  intro H locs ls hP hD hS hl2
  obtain ⟨F1, F2, F3, F4, F5⟩ := F
  exact va_put C.1 C.2.1 C.2.2.2.2.1 F1 ty0 hty hnm C.2.2.2.1 C.2.2.2.2.2.1 hP hD hS q0 he F2 k F3 (C.2.2.2.2.1 _ F4) (fun _ h9 => by rw [F5] at h9; exact h9) hfin (hty k F3) hn hfit hl hdg (fun H1 locs1 hP hD hS => kk H1 locs1 ls hP hD hS hl2)
theorem V_putF (C : Cx p s m args meth c cc nL own ret Ts D tys A) (hin : meth.name = "<init>") {ci idx k : Nat} {T : u_T} {N : Nat} (F : FL own Ts ci idx k own T N) {ty0 : Nat → FieldType} (hty : ∀ k, k < N → parseFieldDescriptor (T k).2.2.1 = some (ty0 k)) (hnm : ∀ a, a < N → ∀ b, b < N → a ≠ b → (T a).2.1 ≠ (T b).2.1) (hfin : (T k).2.2.2 = true) (q0 : Nat) {a : Nat} {fs : List Value} {v : Value} (he : ws[q0]? = some (a, .inr (ci, fs))) (hn : narrow (ty0 k) v = v) (hfit : fits (ty0 k) v = true) (hl : k < fs.length) {pc' : Nat} (hdg : decode cc pc = .ok (.putfield idx, 3)) (hp : pc + 3 = pc') {ws' : va_W} (hw : ws.set q0 (a, .inr (ci, fs.set k v)) = ws')
    (kk : V p l e R s m args below meth c nL D A Q cells slots ws' pc' lv st) : V p l e R s m args below meth c nL D A Q cells slots ws pc lv (v :: .ref a :: st) := by
  subst hp; subst hw
  intro H locs ls hP hD hS hl2
  obtain ⟨F1, F2, F3, F4, F5⟩ := F
  exact va_putF C.1 C.2.1 C.2.2.2.2.1 F1 ty0 hty hnm C.2.2.2.1 C.2.2.2.2.2.1 hP hD hS q0 he F2 k F3 (C.2.2.2.2.1 _ F4) (fun _ h9 => by rw [F5] at h9; exact h9) hfin hin F5 (hty k F3) hn hfit hl hdg (fun H1 locs1 hP hD hS => kk H1 locs1 ls hP hD hS hl2)
theorem V_iald (C : Cx p s m args meth c cc nL own ret Ts D tys A) (q0 t0 : Nat) {a : Nat} {cA : ClassId} {n : Nat} {f : Nat → Int32} (ha : ws[q0]? = some (a, .inl (cA, n, .inl f))) (ht : tys[t0]? = some (cA, .int)) {i : Int32} (hin : vp_in i n) {pc' : Nat} (hdg : decode cc pc = .ok (.iaload, 1)) (hp : pc + 1 = pc')
    (kk : V p l e R s m args below meth c nL D A Q cells slots ws pc' lv (.int (f i.toNatClampNeg) :: st)) : V p l e R s m args below meth c nL D A Q cells slots ws pc lv (.int i :: .ref a :: st) := by
  subst hp
  exact fun H locs ls hP hD hS hl => va_iald C.1 C.2.1 C.2.2.2.2.2.1 hP q0 t0 ha ht hin hdg (kk H locs ls hP hD hS hl)
theorem V_zald (C : Cx p s m args meth c cc nL own ret Ts D tys A) (q0 t0 : Nat) {a : Nat} {cA : ClassId} {n : Nat} {f : Nat → Int32} (ha : ws[q0]? = some (a, .inl (cA, n, .inl f))) (ht : tys[t0]? = some (cA, .boolean)) {i : Int32} (hin : vp_in i n) {pc' : Nat} (hdg : decode cc pc = .ok (.baload, 1)) (hp : pc + 1 = pc')
    (kk : V p l e R s m args below meth c nL D A Q cells slots ws pc' lv (.int (f i.toNatClampNeg) :: st)) : V p l e R s m args below meth c nL D A Q cells slots ws pc lv (.int i :: .ref a :: st) := by
  subst hp
  exact fun H locs ls hP hD hS hl => va_zald C.1 C.2.1 C.2.2.2.2.2.1 hP q0 t0 ha ht hin hdg (kk H locs ls hP hD hS hl)
theorem V_lald (C : Cx p s m args meth c cc nL own ret Ts D tys A) (q0 t0 : Nat) {a : Nat} {cA : ClassId} {n : Nat} {f : Nat → Int64} (ha : ws[q0]? = some (a, .inl (cA, n, .inr (.inl f)))) (ht : tys[t0]? = some (cA, .long)) {i : Int32} (hin : vp_in i n) {pc' : Nat} (hdg : decode cc pc = .ok (.laload, 1)) (hp : pc + 1 = pc')
    (kk : V p l e R s m args below meth c nL D A Q cells slots ws pc' lv (.long (f i.toNatClampNeg) :: st)) : V p l e R s m args below meth c nL D A Q cells slots ws pc lv (.int i :: .ref a :: st) := by
  subst hp
  exact fun H locs ls hP hD hS hl => va_lald C.1 C.2.1 C.2.2.2.2.2.1 hP q0 t0 ha ht hin hdg (kk H locs ls hP hD hS hl)
theorem V_aald (C : Cx p s m args meth c cc nL own ret Ts D tys A) (q0 t0 : Nat) {a : Nat} {cA : ClassId} {n : Nat} {Cn : String} {f : Nat → Option Nat} (ha : ws[q0]? = some (a, .inl (cA, n, .inr (.inr (.inr (.inr f)))))) (ht : tys[t0]? = some (cA, .object Cn)) {i : Int32} (hin : vp_in i n) {b : Nat} (hv : f i.toNatClampNeg = some b) {pc' : Nat} (hdg : decode cc pc = .ok (.aaload, 1)) (hp : pc + 1 = pc')
    (kk : V p l e R s m args below meth c nL D A Q cells slots ws pc' lv (.ref b :: st)) : V p l e R s m args below meth c nL D A Q cells slots ws pc lv (.int i :: .ref a :: st) := by
  subst hp
  refine fun H locs ls hP hD hS hl => va_aldq C.1 C.2.1 C.2.2.2.2.2.1 hP q0 t0 ha ht hin hdg ?_
  rw [hv]
  exact kk H locs ls hP hD hS hl
theorem V_alen (C : Cx p s m args meth c cc nL own ret Ts D tys A) (q0 t0 : Nat) {a : Nat} {cA : ClassId} {x : vp_A} (ha : ws[q0]? = some (a, .inl (cA, x))) {ty : FieldType} (ht : tys[t0]? = some (cA, ty)) {v : Int32} (hv : Int32.ofNat x.1 = v) {pc' : Nat} (hdg : decode cc pc = .ok (.arraylength, 1)) (hp : pc + 1 = pc')
    (kk : V p l e R s m args below meth c nL D A Q cells slots ws pc' lv (.int v :: st)) : V p l e R s m args below meth c nL D A Q cells slots ws pc lv (.ref a :: st) := by
  subst hp
  exact fun H locs ls hP hD hS hl => va_alen C.1 C.2.1 C.2.2.2.2.2.1 hP q0 t0 ha ht hv hdg (kk H locs ls hP hD hS hl)
theorem V_iast (C : Cx p s m args meth c cc nL own ret Ts D tys A) (q0 t0 : Nat) {a : Nat} {cA : ClassId} {n : Nat} {f : Nat → Int32} (ha : ws[q0]? = some (a, .inl (cA, n, .inl f))) (ht : tys[t0]? = some (cA, .int)) {i x : Int32} (hin : vp_in i n) {pc' : Nat} (hdg : decode cc pc = .ok (.iastore, 1)) (hp : pc + 1 = pc') {ws' : va_W} (hw : ws.set q0 (a, .inl (cA, n, .inl (upd f i.toNatClampNeg x))) = ws')
    (kk : V p l e R s m args below meth c nL D A Q cells slots ws' pc' lv st) : V p l e R s m args below meth c nL D A Q cells slots ws pc lv (.int x :: .int i :: .ref a :: st) := by
  subst hp; subst hw
  exact fun H locs ls hP hD hS hl => va_iast C.1 C.2.1 C.2.2.2.2.2.1 hP hD hS q0 t0 ha ht hin hdg (fun H1 locs1 hP hD hS => kk H1 locs1 ls hP hD hS hl)
theorem V_zast (C : Cx p s m args meth c cc nL own ret Ts D tys A) (q0 t0 : Nat) {a : Nat} {cA : ClassId} {n : Nat} {f : Nat → Int32} (ha : ws[q0]? = some (a, .inl (cA, n, .inl f))) (ht : tys[t0]? = some (cA, .boolean)) {i x : Int32} (hx : vp_nar .boolean x = x) (hin : vp_in i n) {pc' : Nat} (hdg : decode cc pc = .ok (.bastore, 1)) (hp : pc + 1 = pc') {ws' : va_W} (hw : ws.set q0 (a, .inl (cA, n, .inl (upd f i.toNatClampNeg x))) = ws')
    (kk : V p l e R s m args below meth c nL D A Q cells slots ws' pc' lv st) : V p l e R s m args below meth c nL D A Q cells slots ws pc lv (.int x :: .int i :: .ref a :: st) := by
  subst hp; subst hw
  intro H locs ls hP hD hS hl
  refine va_zast C.1 C.2.1 C.2.2.2.2.2.1 hP hD hS q0 t0 ha ht hin hdg ?_
  rw [hx]
  exact fun H1 locs1 hP hD hS => kk H1 locs1 ls hP hD hS hl
theorem V_last (C : Cx p s m args meth c cc nL own ret Ts D tys A) (q0 t0 : Nat) {a : Nat} {cA : ClassId} {n : Nat} {f : Nat → Int64} (ha : ws[q0]? = some (a, .inl (cA, n, .inr (.inl f)))) (ht : tys[t0]? = some (cA, .long)) {i : Int32} {x : Int64} (hin : vp_in i n) {pc' : Nat} (hdg : decode cc pc = .ok (.lastore, 1)) (hp : pc + 1 = pc') {ws' : va_W} (hw : ws.set q0 (a, .inl (cA, n, .inr (.inl (vp_updL f i.toNatClampNeg x)))) = ws')
    (kk : V p l e R s m args below meth c nL D A Q cells slots ws' pc' lv st) : V p l e R s m args below meth c nL D A Q cells slots ws pc lv (.long x :: .int i :: .ref a :: st) := by
  subst hp; subst hw
  exact fun H locs ls hP hD hS hl => va_last C.1 C.2.1 C.2.2.2.2.2.1 hP hD hS q0 t0 ha ht hin hdg (fun H1 locs1 hP hD hS => kk H1 locs1 ls hP hD hS hl)
theorem V_aast (C : Cx p s m args meth c cc nL own ret Ts D tys A) (q0 t0 qk ci : Nat) {a : Nat} {cA : ClassId} {r : vw_C} {n v : Nat} {vs : List Value} {f : Nat → Option Nat} (ha : ws[q0]? = some (a, .inl (cA, n, .inr (.inr (.inr (.inr f)))))) (ht : tys[t0]? = some (cA, .object r.1)) (hv : ws[qk]? = some (v, .inr (ci, vs))) (hc : vwCl[ci]? = some r) {i : Int32} (hin : vp_in i n) {pc' : Nat} (hdg : decode cc pc = .ok (.aastore, 1)) (hp : pc + 1 = pc') {ws' : va_W} (hw : ws.set q0 (a, .inl (cA, n, .inr (.inr (.inr (.inr (va_up f i.toNatClampNeg (some v))))))) = ws')
    (kk : V p l e R s m args below meth c nL D A Q cells slots ws' pc' lv st) : V p l e R s m args below meth c nL D A Q cells slots ws pc lv (.ref v :: .int i :: .ref a :: st) := by
  subst hp; subst hw
  exact fun H locs ls hP hD hS hl => va_astq C.1 C.2.1 C.2.2.2.2.2.1 hP hD hS q0 t0 qk ci ha ht hv hc hin hdg (fun H1 locs1 hP hD hS => kk H1 locs1 ls hP hD hS hl)
theorem V_copy (C : Cx p s m args meth c cc nL own ret Ts D tys A) {index : Nat} (hlk : Cond.methodLink own index arraycopyName ∈ Ts) (hnat : Cond.native arraycopyName ∈ Ts) (hstt : Cond.static arraycopyName ∈ Ts) (hini : Cond.initialized "java/lang/System" ∈ Ts) (q0 q1 t0 : Nat) {a0 a : Nat} {c0 : ClassId} {n0 n1 : Nat} {f g : Nat → Int32} (ha0 : ws[q0]? = some (a0, .inl (c0, n0, .inl f))) (ha1 : ws[q1]? = some (a, .inl (c0, n1, .inl g))) (ht0 : tys[t0]? = some (c0, .int))
    {sp dp n : Int32} (hk : ¬ sp < 0 ∧ ¬ dp < 0 ∧ ¬ n < 0 ∧ sp.toNatClampNeg + n.toNatClampNeg ≤ n0 ∧ dp.toNatClampNeg + n.toNatClampNeg ≤ n1)
    (hframes : 1 ≤ R.frames) (hlocals : (st.map fun v => v.category).sum + (nativeFrameWords "java/lang/System" "arraycopy" 5 + 11) ≤ R.locals) {pc' : Nat} (hdg : decode cc pc = .ok (.invokestatic index, 3)) (hp : pc + 3 = pc') {ws' : va_W} (hw : ws.set q1 (a, .inl (c0, n1, .inl (va_cpy f g sp.toNatClampNeg dp.toNatClampNeg n.toNatClampNeg))) = ws')
    (kk : V p l e R s m args below meth c nL D A Q cells slots ws' pc' lv st) : V p l e R s m args below meth c nL D A Q cells slots ws pc lv (.int n :: .int dp :: .ref a :: .int sp :: .ref a0 :: st) := by
  subst hp; subst hw
  exact fun H locs ls hP hD hS hl => va_copyi C.1 C.2.1 (C.2.2.1.trans hl.1.symm) C.2.2.2.1 (C.2.2.2.2.1 _ hlk) (C.2.2.2.2.1 _ hnat) (C.2.2.2.2.1 _ hstt) (C.2.2.2.2.1 _ hini) C.2.2.2.2.2.1 hP hD hS q0 q1 t0 t0 ha0 ha1 ht0 ht0 rfl hk.1 hk.2.1 hk.2.2.1 hk.2.2.2.1 hk.2.2.2.2 (fun i hi => rfl) hframes hlocals hdg (fun H1 locs1 hP hD hS => kk H1 locs1 ls hP hD hS hl)
theorem V_mmax (C : Cx p s m args meth c cc nL own ret Ts D tys A) {index : Nat} (hlk : Cond.methodLink own index Lib.Math.max.name ∈ Ts) (hstt : Cond.static Lib.Math.max.name ∈ Ts) (hini : Cond.initialized "java/lang/Math" ∈ Ts) (hcode : Cond.code Lib.Math.max.name Lib.Math.max.code 2 (some .int) ∈ Ts) (hframes : 1 ≤ R.frames) (hlocals : (st.map fun v => v.category).sum + 13 ≤ R.locals) (hc : cells ≤ R.cells) (hs : slots ≤ R.slots) {x y : Int32} {pc' : Nat} (hdg : decode cc pc = .ok (.invokestatic index, 3)) (hp : pc + 3 = pc')
    (kk : V p l e R s m args below meth c nL D A Q cells slots ws pc' lv (.int (if x < y then y else x) :: st)) : V p l e R s m args below meth c nL D A Q cells slots ws pc lv (.int y :: .int x :: st) := by
  subst hp
  exact fun H locs ls hP hD hS hl => va_mmax C.1 C.2.1 (C.2.2.1.trans hl.1.symm) C.2.2.2.1 (C.2.2.2.2.1 _ hlk) (C.2.2.2.2.1 _ hstt) (C.2.2.2.2.1 _ hini) (C.2.2.2.2.1 _ hcode) hframes hlocals hc hs hdg (kk H locs ls hP hD hS hl)
theorem V_mmin (C : Cx p s m args meth c cc nL own ret Ts D tys A) {index : Nat} (hlk : Cond.methodLink own index Lib.Math.min.name ∈ Ts) (hstt : Cond.static Lib.Math.min.name ∈ Ts) (hini : Cond.initialized "java/lang/Math" ∈ Ts) (hcode : Cond.code Lib.Math.min.name Lib.Math.min.code 2 (some .int) ∈ Ts) (hframes : 1 ≤ R.frames) (hlocals : (st.map fun v => v.category).sum + 13 ≤ R.locals) (hc : cells ≤ R.cells) (hs : slots ≤ R.slots) {x y : Int32} {pc' : Nat} (hdg : decode cc pc = .ok (.invokestatic index, 3)) (hp : pc + 3 = pc')
    (kk : V p l e R s m args below meth c nL D A Q cells slots ws pc' lv (.int (if y < x then y else x) :: st)) : V p l e R s m args below meth c nL D A Q cells slots ws pc lv (.int y :: .int x :: st) := by
  subst hp
  exact fun H locs ls hP hD hS hl => va_mmin C.1 C.2.1 (C.2.2.1.trans hl.1.symm) C.2.2.2.1 (C.2.2.2.2.1 _ hlk) (C.2.2.2.2.1 _ hstt) (C.2.2.2.2.1 _ hini) (C.2.2.2.2.1 _ hcode) hframes hlocals hc hs hdg (kk H locs ls hP hD hS hl)
/-- what a contract asks of the cells, at its start and at its end -/
def PreW (D : va_G) (tys : List (ClassId × FieldType)) (wc : va_W) (sz : Nat) : State → Prop := fun U => U.heap.size = sz ∧ va_P D vwCl wc U.heap ∧ va_K D vwCl tys U ∧ va_D (fun _ => True) wc
def PostW {S : Type} (D : va_G) (tys : List (ClassId × FieldType)) (A : Nat → Prop) (wc' : S → va_W) : S → State → Prop := fun u t => va_P D vwCl (wc' u) t.heap ∧ va_K D vwCl tys t ∧ va_D A (wc' u)
def MetI (l : Launch) (y : MethodName) (wsY : List Cond) (rm : Room) (D : va_G) (tys : List (ClassId × FieldType)) (av : List Value) (wc : va_W) {S : Type} (post : Int32 → S → Prop) (wc' : S → va_W) : Prop :=
  ∀ sz : Nat, Met l y wsY rm (va_Pc av (PreW D tys wc sz)) (va_Qi post (PostW D tys (va_A wc sz) wc') (va_A wc sz)) rm.cells rm.slots (va_A wc sz)
def MetL (l : Launch) (y : MethodName) (wsY : List Cond) (rm : Room) (D : va_G) (tys : List (ClassId × FieldType)) (av : List Value) (wc : va_W) {S : Type} (post : Int64 → S → Prop) (wc' : S → va_W) : Prop :=
  ∀ sz : Nat, Met l y wsY rm (va_Pc av (PreW D tys wc sz)) (va_Ql post (PostW D tys (va_A wc sz) wc') (va_A wc sz)) rm.cells rm.slots (va_A wc sz)
def MetV (l : Launch) (y : MethodName) (wsY : List Cond) (rm : Room) (D : va_G) (tys : List (ClassId × FieldType)) (av : List Value) (wc : va_W) {S : Type} (post : S → Prop) (wc' : S → va_W) : Prop :=
  ∀ sz : Nat, Met l y wsY rm (va_Pc av (PreW D tys wc sz)) (va_Qv post (PostW D tys (va_A wc sz) wc') (va_A wc sz)) rm.cells rm.slots (va_A wc sz)
theorem blindW {D : va_G} {tys : List (ClassId × FieldType)} {av : List Value} {wc : va_W} {sz : Nat} : FrameBlind (va_Pc av (PreW D tys wc sz)) := fun a U g mk q => by
  obtain ⟨q0, q1, qP, qK, qD⟩ := q
  exact ⟨q0, q1, qP, va_K.moved (u := U) (U := U.calling g mk a) (Vm.Alike.refl U.vm) qK, qD⟩
theorem startW {p : Program} {l : Launch} {y : MethodName} {wsY : List Cond} {rm : Room} {cc : ByteArray} {maxL : Nat} {ret : Option FieldType} {own : String} {D : va_G} {tys : List (ClassId × FieldType)} {av : List Value} {wc : va_W} {lv0 : List (Nat × Value)} {sz : Nat} {e : Env} {s : State} {m : MethodId} {args : Array Value} {below : List Frame} {meth : Method} {c : Code} {s₁ : State} {Qg : (Nat → Prop) → State → Prop}
    (ho : y.cls = own) (ha : (lg_sl av).length ≤ maxL) (hv0 : lv_args 0 av = lv0)
    (B : BodyLoose p l y (headSpec wsY rm) cc maxL ret e s m args below meth c s₁) (hml : c.maxLocals = maxL) (hv : va_Pc av (PreW D tys wc sz) args s)
    (body : ∀ A : Nat → Prop, Cx p s m av.toArray meth c cc maxL own ret wsY D tys A → (y.name = "<init>" → meth.name = "<init>") → V p l e rm s m av.toArray below meth c maxL D A (Qg A) 0 0 wc 0 lv0 []) :
    W p l e (headSpec wsY rm).room s m args below meth c s.heap [] 0 0 (Qg (va_A wc sz)) (entryFrame m args maxL) := by
  obtain ⟨rfl, hsz, hP, hK, hD0⟩ := hv
  subst hsz
  have hts := atoms_spec (ws := wsY) B.pre
  have hown : s.vm.findClass own = some m.cls := by rw [← ho]; exact findClass_of_methodNamed B.named
  have hD := hD0.self (sz := s.heap.size)
  have hl := lv_entry av (n := maxL) ha
  rw [lg_entry_eq]
  rw [hv0] at hl
  exact body (va_A wc s.heap.size) ⟨B.exec, B.bytes, hml, hown, hts, hK, fun q h => Or.inr h, B.returns, B.notSynchronized⟩ (fun h => ((name_of_methodNamed B.named B.method).1).trans h) s.heap [] _ hP hD va_S.rf hl
theorem MetI.ofV {l : Launch} {y : MethodName} {wsY ws' : List Cond} {rm : Room} {cc : ByteArray} {maxL : Nat} {ret : Option FieldType} {own : String} {D : va_G} {tys : List (ClassId × FieldType)} {av : List Value} {wc : va_W} {S : Type} {post : Int32 → S → Prop} {wc' : S → va_W} {lv0 : List (Nat × Value)}
    (hy : plainName y.cls = true) (hw : wsY = Cond.code y cc maxL ret :: ws') (ho : y.cls = own) (ha : (lg_sl av).length ≤ maxL) (hv0 : lv_args 0 av = lv0)
    (body : ∀ (p : Program) (e : Env) (s : State) (m : MethodId) (below : List Frame) (meth : Method) (c : Code) (A : Nat → Prop), Cx p s m av.toArray meth c cc maxL own ret wsY D tys A → (y.name = "<init>" → meth.name = "<init>") → V p l e rm s m av.toArray below meth c maxL D A (MQ below (va_Qi post (PostW D tys A wc') A) av.toArray s rm.cells rm.slots A) 0 0 wc 0 lv0 []) :
    MetI l y wsY rm D tys av wc post wc' := by
  intro sz
  refine Met.ofW (cc := cc) (maxL := maxL) (ret := ret) hy hw ?_
  intro p e s m args below meth c s₁ B hml hv
  have hv1 : args = av.toArray := hv.1
  have := startW (Qg := fun A => MQ below (va_Qi post (PostW D tys A wc') A) av.toArray s rm.cells rm.slots A) ho ha hv0 B hml hv (fun A C hn => body p e s m below meth c A C hn)
  rw [hv1] at this ⊢
  exact this
theorem MetL.ofV {l : Launch} {y : MethodName} {wsY ws' : List Cond} {rm : Room} {cc : ByteArray} {maxL : Nat} {ret : Option FieldType} {own : String} {D : va_G} {tys : List (ClassId × FieldType)} {av : List Value} {wc : va_W} {S : Type} {post : Int64 → S → Prop} {wc' : S → va_W} {lv0 : List (Nat × Value)}
    (hy : plainName y.cls = true) (hw : wsY = Cond.code y cc maxL ret :: ws') (ho : y.cls = own) (ha : (lg_sl av).length ≤ maxL) (hv0 : lv_args 0 av = lv0)
    (body : ∀ (p : Program) (e : Env) (s : State) (m : MethodId) (below : List Frame) (meth : Method) (c : Code) (A : Nat → Prop), Cx p s m av.toArray meth c cc maxL own ret wsY D tys A → (y.name = "<init>" → meth.name = "<init>") → V p l e rm s m av.toArray below meth c maxL D A (MQ below (va_Ql post (PostW D tys A wc') A) av.toArray s rm.cells rm.slots A) 0 0 wc 0 lv0 []) :
    MetL l y wsY rm D tys av wc post wc' := by
  intro sz
  refine Met.ofW (cc := cc) (maxL := maxL) (ret := ret) hy hw ?_
  intro p e s m args below meth c s₁ B hml hv
  have hv1 : args = av.toArray := hv.1
  have := startW (Qg := fun A => MQ below (va_Ql post (PostW D tys A wc') A) av.toArray s rm.cells rm.slots A) ho ha hv0 B hml hv (fun A C hn => body p e s m below meth c A C hn)
  rw [hv1] at this ⊢
  exact this
theorem MetV.ofV {l : Launch} {y : MethodName} {wsY ws' : List Cond} {rm : Room} {cc : ByteArray} {maxL : Nat} {ret : Option FieldType} {own : String} {D : va_G} {tys : List (ClassId × FieldType)} {av : List Value} {wc : va_W} {S : Type} {post : S → Prop} {wc' : S → va_W} {lv0 : List (Nat × Value)}
    (hy : plainName y.cls = true) (hw : wsY = Cond.code y cc maxL ret :: ws') (ho : y.cls = own) (ha : (lg_sl av).length ≤ maxL) (hv0 : lv_args 0 av = lv0)
    (body : ∀ (p : Program) (e : Env) (s : State) (m : MethodId) (below : List Frame) (meth : Method) (c : Code) (A : Nat → Prop), Cx p s m av.toArray meth c cc maxL own ret wsY D tys A → (y.name = "<init>" → meth.name = "<init>") → V p l e rm s m av.toArray below meth c maxL D A (MQ below (va_Qv post (PostW D tys A wc') A) av.toArray s rm.cells rm.slots A) 0 0 wc 0 lv0 []) :
    MetV l y wsY rm D tys av wc post wc' := by
  intro sz
  refine Met.ofW (cc := cc) (maxL := maxL) (ret := ret) hy hw ?_
  intro p e s m args below meth c s₁ B hml hv
  have hv1 : args = av.toArray := hv.1
  have := startW (Qg := fun A => MQ below (va_Qv post (PostW D tys A wc') A) av.toArray s rm.cells rm.slots A) ho ha hv0 B hml hv (fun A C hn => body p e s m below meth c A C hn)
  rw [hv1] at this ⊢
  exact this
/-- ends -/
theorem V_iret (C : Cx p s m args meth c cc nL own (some .int) Ts D tys A) {v : Int32} {S : Type} {post : Int32 → S → Prop} {wc' : S → va_W} (u : S) (hp : post v u) (hw : ws = wc' u) (hdg : decode cc pc = .ok (.ireturn, 1)) : V p l e R s m args below meth c nL D A (MQ below (va_Qi post (PostW D tys A wc') A) args s cells slots A) cells slots ws pc lv [.int v] := by
  subst hw
  exact fun H locs ls hP hD hS hl => W.iret C.1 C.2.1 C.2.2.2.2.2.2.2.1 (fun t ht hW => ⟨⟨v, u, rfl, hp, by rw [ht]; exact hP, va_K.moved hW.alike C.2.2.2.2.2.1, hD⟩, hS.F ht⟩) hS.2.2 hdg (hlocks := C.2.2.2.2.2.2.2.2)
theorem V_zret (C : Cx p s m args meth c cc nL own (some .boolean) Ts D tys A) {v : Int32} (hv : narrow .boolean (.int v) = .int v) {S : Type} {post : Int32 → S → Prop} {wc' : S → va_W} (u : S) (hp : post v u) (hw : ws = wc' u) (hdg : decode cc pc = .ok (.ireturn, 1)) : V p l e R s m args below meth c nL D A (MQ below (va_Qi post (PostW D tys A wc') A) args s cells slots A) cells slots ws pc lv [.int v] := by
  subst hw
  exact fun H locs ls hP hD hS hl => W.zret C.1 C.2.1 C.2.2.2.2.2.2.2.1 hv (fun t ht hW => ⟨⟨v, u, rfl, hp, by rw [ht]; exact hP, va_K.moved hW.alike C.2.2.2.2.2.1, hD⟩, hS.F ht⟩) hS.2.2 hdg (hlocks := C.2.2.2.2.2.2.2.2)
theorem V_lret (C : Cx p s m args meth c cc nL own (some .long) Ts D tys A) {v : Int64} {S : Type} {post : Int64 → S → Prop} {wc' : S → va_W} (u : S) (hp : post v u) (hw : ws = wc' u) (hdg : decode cc pc = .ok (.lreturn, 1)) : V p l e R s m args below meth c nL D A (MQ below (va_Ql post (PostW D tys A wc') A) args s cells slots A) cells slots ws pc lv [.long v] := by
  subst hw
  exact fun H locs ls hP hD hS hl => W.lret C.1 C.2.1 C.2.2.2.2.2.2.2.1 (fun t ht hW => ⟨⟨v, u, rfl, hp, by rw [ht]; exact hP, va_K.moved hW.alike C.2.2.2.2.2.1, hD⟩, hS.F ht⟩) hS.2.2 hdg (hlocks := C.2.2.2.2.2.2.2.2)
theorem V_vret (C : Cx p s m args meth c cc nL own none Ts D tys A) {S : Type} {post : S → Prop} {wc' : S → va_W} (u : S) (hp : post u) (hw : ws = wc' u) (hdg : decode cc pc = .ok (.return_, 1)) : V p l e R s m args below meth c nL D A (MQ below (va_Qv post (PostW D tys A wc') A) args s cells slots A) cells slots ws pc lv [] := by
  subst hw
  exact fun H locs ls hP hD hS hl => W.vret C.1 C.2.1 C.2.2.2.2.2.2.2.1 (fun t ht hW => ⟨⟨u, rfl, hp, by rw [ht]; exact hP, va_K.moved hW.alike C.2.2.2.2.2.1, hD⟩, hS.F ht⟩) hS.2.2 hdg (hlocks := C.2.2.2.2.2.2.2.2)
/-- a callee's cells at their places in the caller's world, the others, and where all stand behind the call -/
def Cut {S : Type} (ws wc : va_W) (wc' ws' : S → va_W) (isC isR pm : List Nat) : Prop :=
  isC.map (fun i => ws[i]?) = wc.map some ∧ va_nd isC = true ∧ va_nd isR = true ∧ (∀ i ∈ isR, i ∉ isC) ∧ va_nd pm = true ∧ isR.map (fun i => ws[i]?) = (isR.filterMap (fun i => ws[i]?)).map some ∧ ∀ u, pm.map (fun i => (isR.filterMap (fun i => ws[i]?) ++ wc' u)[i]?) = (ws' u).map some
theorem Cut.all {S : Type} (wc : va_W) (wc' : S → va_W) (n : Nat) (hn : wc.length = n) (hn' : ∀ u, (wc' u).length = n) : Cut wc wc wc' wc' (List.range n) [] (List.range n) := by
  subst hn
  have key : ∀ w : va_W, (List.range w.length).map (fun i => w[i]?) = w.map some := by
    intro w
    apply List.ext_getElem?
    intro k
    by_cases hk : k < w.length
    · rw [List.getElem?_map, List.getElem?_map, List.getElem?_range hk]
      simp [hk]
    · rw [List.getElem?_map, List.getElem?_map]
      simp [hk]
  have hnd : ∀ n : Nat, va_nd (List.range n) = true := by
    have h2 : ∀ (l : List Nat), l.Nodup → va_nd l = true := by
      intro l
      induction l with
      | nil => intro _; rfl
      | cons a l ih =>
        intro h
        have h := List.nodup_cons.mp h
        simp only [va_nd, Bool.and_eq_true, decide_eq_true_eq]
        exact ⟨h.1, ih h.2⟩
    intro n
    exact h2 _ List.nodup_range
  refine ⟨key wc, hnd _, rfl, fun i h => (by cases h), hnd _, rfl, fun u => ?_⟩
  show (List.range wc.length).map (fun i => (([] : va_W) ++ wc' u)[i]?) = _
  rw [← hn' u]
  exact key (wc' u)
theorem Cut.join {S : Type} {ws wc : va_W} {wc' ws' : S → va_W} {isC isR pm : List Nat} {A0 : Nat → Prop} {D : va_G} {H H1 : Heap} (T : Cut ws wc wc' ws' isC isR pm) (hP : va_P D vwCl ws H) (hD : va_D A0 ws) (hk : ∀ q : Nat, q < H.size → ¬ va_A wc H.size q → H1[q]? = H[q]?) (hF : ∀ q, va_A wc H.size q → A0 q) (u : S) (hP1 : va_P D vwCl (wc' u) H1) (hD1 : va_D (va_A wc H.size) (wc' u)) : va_P D vwCl (ws' u) H1 ∧ va_D A0 (ws' u) := by
  obtain ⟨h1, -, h2, h3, h4, h5, h6⟩ := T
  obtain ⟨hP2, hD2⟩ := va_join (wr := isR.filterMap (fun i => ws[i]?)) hP hD isC isR h1 h5 h2 h3 hk hF hP1 hD1
  refine ⟨hP2.sub pm ?_, hD2.sub pm h4 (h6 u)⟩
  have h7 := congrArg (fun l => l.filterMap id) (h6 u)
  simpa [List.filterMap_map, Function.comp_def] using h7
theorem V_callVI (C : Cx p s m args meth c cc nL own ret Ts D tys A) {Cn : String} {b : Nat} {y : MethodName} {wsY wsY' : List Cond} {rmY : Room} {As : List Value} {wc : va_W} {S : Type} {post : Int32 → S → Prop} {wc' ws' : S → va_W} (hM : MetI l y wsY rmY D tys (.ref b :: As) wc post wc') {bytes : ByteArray} {maxLY idx : Nat} {retY : Option FieldType} (hw0 : wsY = Cond.code y bytes maxLY retY :: wsY') (n : Nat)
    (hG : GoodIn Ts (wsV own idx Cn y wsY)) (hd : y.cls = Cn ∧ y.cls ≠ "java/lang/invoke/MethodHandle" ∧ y.cls ≠ "java/lang/invoke/VarHandle" ∧ (parseMethodDescriptor y.desc).map (fun d => d.parameters.length) = some n) (hR : rmY.frames + 1 ≤ R.frames ∧ 8 + (maxLY + 11) + rmY.locals ≤ R.locals) (hn : As.length = n) (qr ci : Nat) {fs : List Value} {T : u_T} {N : Nat} (hrc : ws[qr]? = some (b, .inr (ci, fs))) (hci : vwCl[ci]? = some (Cn, T, N)) (isC isR pm : List Nat) (hT : Cut ws wc wc' ws' isC isR pm) {stk : List Value} (hstk : stk = As.reverse ++ .ref b :: st) (hcat : (st.map fun v => v.category).sum ≤ 8) {pc' : Nat} (hdg : decode cc pc = .ok (.invokevirtual idx, 3)) (hp : pc + 3 = pc') (hf : cells + rmY.cells ≤ R.cells ∧ slots + rmY.slots ≤ R.slots)
    (kk : ∀ (r : Int32) (u : S), post r u → V p l e R s m args below meth c nL D A Q (cells + rmY.cells) (slots + rmY.slots) (ws' u) pc' lv (.int r :: st)) : V p l e R s m args below meth c nL D A Q cells slots ws pc lv stk := by
  subst hp
  intro H locs ls hP hD hS hl
  have hPc : va_P D vwCl wc H := hP.sub isC (by have h7 := congrArg (fun l => l.filterMap id) hT.1; simpa [List.filterMap_map, Function.comp_def] using h7)
  have hDc : va_D A wc := hD.sub isC hT.2.1 hT.1
  have hFc := va_free (wc := wc) hD hS C.2.2.2.2.2.2.1 isC hT.1
  refine va_calli (va_runV (As := As) (rest := st) ⟨C.1, C.2.1, C.2.2.1, C.2.2.2.1, C.2.2.2.2.1⟩ (hM H.size) (cwV n C.2.2.2.2.1 hG hw0 rfl rfl hd hR) ⟨blindW, va_recv C.2.2.2.2.2.1 hP hci hrc, fun U hU hW => ⟨rfl, by rw [hU], by rw [hU]; exact hPc, va_K.moved hW.alike C.2.2.2.2.2.1, hDc.weaken (fun _ _ _ _ => trivial)⟩⟩ rfl hn hl.1 hstk (lv_room hcat) hdg hf) hS (fun q _ h => hFc q h) hFc (fun r u t H1 locs1 ht hvm hw hB hz1 hk1 hS1 => ?_)
  obtain ⟨hP1, hK1, hD1⟩ := hB
  rw [ht] at hP1
  obtain ⟨hP, hD⟩ := hT.join hP hD hk1 hFc u hP1 hD1
  exact kk r u hw H1 locs1 ls hP hD hS1 hl
theorem V_callSI (C : Cx p s m args meth c cc nL own ret Ts D tys A)  {y : MethodName} {wsY wsY' : List Cond} {rmY : Room} {As : List Value} {wc : va_W} {S : Type} {post : Int32 → S → Prop} {wc' ws' : S → va_W} (hM : MetI l y wsY rmY D tys (As) wc post wc') {bytes : ByteArray} {maxLY idx : Nat} {retY : Option FieldType} (hw0 : wsY = Cond.code y bytes maxLY retY :: wsY') (n : Nat)
    (hG : GoodIn Ts (va_wsS own idx y wsY)) (hd : y.cls ≠ "java/lang/invoke/MethodHandle" ∧ y.cls ≠ "java/lang/invoke/VarHandle" ∧ (parseMethodDescriptor y.desc).map (fun d => d.parameters.length) = some n) (hR : rmY.frames + 1 ≤ R.frames ∧ 8 + (maxLY + 11) + rmY.locals ≤ R.locals) (hn : As.length = n)  (isC isR pm : List Nat) (hT : Cut ws wc wc' ws' isC isR pm) {stk : List Value} (hstk : stk = As.reverse ++ st) (hcat : (st.map fun v => v.category).sum ≤ 8) {pc' : Nat} (hdg : decode cc pc = .ok (.invokestatic idx, 3)) (hp : pc + 3 = pc') (hf : cells + rmY.cells ≤ R.cells ∧ slots + rmY.slots ≤ R.slots)
    (kk : ∀ (r : Int32) (u : S), post r u → V p l e R s m args below meth c nL D A Q (cells + rmY.cells) (slots + rmY.slots) (ws' u) pc' lv (.int r :: st)) : V p l e R s m args below meth c nL D A Q cells slots ws pc lv stk := by
  subst hp
  intro H locs ls hP hD hS hl
  have hPc : va_P D vwCl wc H := hP.sub isC (by have h7 := congrArg (fun l => l.filterMap id) hT.1; simpa [List.filterMap_map, Function.comp_def] using h7)
  have hDc : va_D A wc := hD.sub isC hT.2.1 hT.1
  have hFc := va_free (wc := wc) hD hS C.2.2.2.2.2.2.1 isC hT.1
  refine va_calli (va_runS (As := As) (rest := st) ⟨C.1, C.2.1, C.2.2.1, C.2.2.2.1, C.2.2.2.2.1⟩ (hM H.size) (va_cwS n C.2.2.2.2.1 hG hw0 rfl rfl hd hR) ⟨blindW, fun U hU hW => ⟨rfl, by rw [hU], by rw [hU]; exact hPc, va_K.moved hW.alike C.2.2.2.2.2.1, hDc.weaken (fun _ _ _ _ => trivial)⟩⟩ rfl hn hl.1 hstk (lv_room hcat) hdg hf) hS (fun q _ h => hFc q h) hFc (fun r u t H1 locs1 ht hvm hw hB hz1 hk1 hS1 => ?_)
  obtain ⟨hP1, hK1, hD1⟩ := hB
  rw [ht] at hP1
  obtain ⟨hP, hD⟩ := hT.join hP hD hk1 hFc u hP1 hD1
  exact kk r u hw H1 locs1 ls hP hD hS1 hl
theorem V_callVL (C : Cx p s m args meth c cc nL own ret Ts D tys A) {Cn : String} {b : Nat} {y : MethodName} {wsY wsY' : List Cond} {rmY : Room} {As : List Value} {wc : va_W} {S : Type} {post : Int64 → S → Prop} {wc' ws' : S → va_W} (hM : MetL l y wsY rmY D tys (.ref b :: As) wc post wc') {bytes : ByteArray} {maxLY idx : Nat} {retY : Option FieldType} (hw0 : wsY = Cond.code y bytes maxLY retY :: wsY') (n : Nat)
    (hG : GoodIn Ts (wsV own idx Cn y wsY)) (hd : y.cls = Cn ∧ y.cls ≠ "java/lang/invoke/MethodHandle" ∧ y.cls ≠ "java/lang/invoke/VarHandle" ∧ (parseMethodDescriptor y.desc).map (fun d => d.parameters.length) = some n) (hR : rmY.frames + 1 ≤ R.frames ∧ 8 + (maxLY + 11) + rmY.locals ≤ R.locals) (hn : As.length = n) (qr ci : Nat) {fs : List Value} {T : u_T} {N : Nat} (hrc : ws[qr]? = some (b, .inr (ci, fs))) (hci : vwCl[ci]? = some (Cn, T, N)) (isC isR pm : List Nat) (hT : Cut ws wc wc' ws' isC isR pm) {stk : List Value} (hstk : stk = As.reverse ++ .ref b :: st) (hcat : (st.map fun v => v.category).sum ≤ 8) {pc' : Nat} (hdg : decode cc pc = .ok (.invokevirtual idx, 3)) (hp : pc + 3 = pc') (hf : cells + rmY.cells ≤ R.cells ∧ slots + rmY.slots ≤ R.slots)
    (kk : ∀ (r : Int64) (u : S), post r u → V p l e R s m args below meth c nL D A Q (cells + rmY.cells) (slots + rmY.slots) (ws' u) pc' lv (.long r :: st)) : V p l e R s m args below meth c nL D A Q cells slots ws pc lv stk := by
  subst hp
  intro H locs ls hP hD hS hl
  have hPc : va_P D vwCl wc H := hP.sub isC (by have h7 := congrArg (fun l => l.filterMap id) hT.1; simpa [List.filterMap_map, Function.comp_def] using h7)
  have hDc : va_D A wc := hD.sub isC hT.2.1 hT.1
  have hFc := va_free (wc := wc) hD hS C.2.2.2.2.2.2.1 isC hT.1
  refine va_calll (va_runV (As := As) (rest := st) ⟨C.1, C.2.1, C.2.2.1, C.2.2.2.1, C.2.2.2.2.1⟩ (hM H.size) (cwV n C.2.2.2.2.1 hG hw0 rfl rfl hd hR) ⟨blindW, va_recv C.2.2.2.2.2.1 hP hci hrc, fun U hU hW => ⟨rfl, by rw [hU], by rw [hU]; exact hPc, va_K.moved hW.alike C.2.2.2.2.2.1, hDc.weaken (fun _ _ _ _ => trivial)⟩⟩ rfl hn hl.1 hstk (lv_room hcat) hdg hf) hS (fun q _ h => hFc q h) hFc (fun r u t H1 locs1 ht hvm hw hB hz1 hk1 hS1 => ?_)
  obtain ⟨hP1, hK1, hD1⟩ := hB
  rw [ht] at hP1
  obtain ⟨hP, hD⟩ := hT.join hP hD hk1 hFc u hP1 hD1
  exact kk r u hw H1 locs1 ls hP hD hS1 hl
theorem V_callSL (C : Cx p s m args meth c cc nL own ret Ts D tys A)  {y : MethodName} {wsY wsY' : List Cond} {rmY : Room} {As : List Value} {wc : va_W} {S : Type} {post : Int64 → S → Prop} {wc' ws' : S → va_W} (hM : MetL l y wsY rmY D tys (As) wc post wc') {bytes : ByteArray} {maxLY idx : Nat} {retY : Option FieldType} (hw0 : wsY = Cond.code y bytes maxLY retY :: wsY') (n : Nat)
    (hG : GoodIn Ts (va_wsS own idx y wsY)) (hd : y.cls ≠ "java/lang/invoke/MethodHandle" ∧ y.cls ≠ "java/lang/invoke/VarHandle" ∧ (parseMethodDescriptor y.desc).map (fun d => d.parameters.length) = some n) (hR : rmY.frames + 1 ≤ R.frames ∧ 8 + (maxLY + 11) + rmY.locals ≤ R.locals) (hn : As.length = n)  (isC isR pm : List Nat) (hT : Cut ws wc wc' ws' isC isR pm) {stk : List Value} (hstk : stk = As.reverse ++ st) (hcat : (st.map fun v => v.category).sum ≤ 8) {pc' : Nat} (hdg : decode cc pc = .ok (.invokestatic idx, 3)) (hp : pc + 3 = pc') (hf : cells + rmY.cells ≤ R.cells ∧ slots + rmY.slots ≤ R.slots)
    (kk : ∀ (r : Int64) (u : S), post r u → V p l e R s m args below meth c nL D A Q (cells + rmY.cells) (slots + rmY.slots) (ws' u) pc' lv (.long r :: st)) : V p l e R s m args below meth c nL D A Q cells slots ws pc lv stk := by
  subst hp
  intro H locs ls hP hD hS hl
  have hPc : va_P D vwCl wc H := hP.sub isC (by have h7 := congrArg (fun l => l.filterMap id) hT.1; simpa [List.filterMap_map, Function.comp_def] using h7)
  have hDc : va_D A wc := hD.sub isC hT.2.1 hT.1
  have hFc := va_free (wc := wc) hD hS C.2.2.2.2.2.2.1 isC hT.1
  refine va_calll (va_runS (As := As) (rest := st) ⟨C.1, C.2.1, C.2.2.1, C.2.2.2.1, C.2.2.2.2.1⟩ (hM H.size) (va_cwS n C.2.2.2.2.1 hG hw0 rfl rfl hd hR) ⟨blindW, fun U hU hW => ⟨rfl, by rw [hU], by rw [hU]; exact hPc, va_K.moved hW.alike C.2.2.2.2.2.1, hDc.weaken (fun _ _ _ _ => trivial)⟩⟩ rfl hn hl.1 hstk (lv_room hcat) hdg hf) hS (fun q _ h => hFc q h) hFc (fun r u t H1 locs1 ht hvm hw hB hz1 hk1 hS1 => ?_)
  obtain ⟨hP1, hK1, hD1⟩ := hB
  rw [ht] at hP1
  obtain ⟨hP, hD⟩ := hT.join hP hD hk1 hFc u hP1 hD1
  exact kk r u hw H1 locs1 ls hP hD hS1 hl
theorem V_callVV (C : Cx p s m args meth c cc nL own ret Ts D tys A) {Cn : String} {b : Nat} {y : MethodName} {wsY wsY' : List Cond} {rmY : Room} {As : List Value} {wc : va_W} {S : Type} {post : S → Prop} {wc' ws' : S → va_W} (hM : MetV l y wsY rmY D tys (.ref b :: As) wc post wc') {bytes : ByteArray} {maxLY idx : Nat} {retY : Option FieldType} (hw0 : wsY = Cond.code y bytes maxLY retY :: wsY') (n : Nat)
    (hG : GoodIn Ts (wsV own idx Cn y wsY)) (hd : y.cls = Cn ∧ y.cls ≠ "java/lang/invoke/MethodHandle" ∧ y.cls ≠ "java/lang/invoke/VarHandle" ∧ (parseMethodDescriptor y.desc).map (fun d => d.parameters.length) = some n) (hR : rmY.frames + 1 ≤ R.frames ∧ 8 + (maxLY + 11) + rmY.locals ≤ R.locals) (hn : As.length = n) (qr ci : Nat) {fs : List Value} {T : u_T} {N : Nat} (hrc : ws[qr]? = some (b, .inr (ci, fs))) (hci : vwCl[ci]? = some (Cn, T, N)) (isC isR pm : List Nat) (hT : Cut ws wc wc' ws' isC isR pm) {stk : List Value} (hstk : stk = As.reverse ++ .ref b :: st) (hcat : (st.map fun v => v.category).sum ≤ 8) {pc' : Nat} (hdg : decode cc pc = .ok (.invokevirtual idx, 3)) (hp : pc + 3 = pc') (hf : cells + rmY.cells ≤ R.cells ∧ slots + rmY.slots ≤ R.slots)
    (kk : ∀ u : S, post u → V p l e R s m args below meth c nL D A Q (cells + rmY.cells) (slots + rmY.slots) (ws' u) pc' lv st) : V p l e R s m args below meth c nL D A Q cells slots ws pc lv stk := by
  subst hp
  intro H locs ls hP hD hS hl
  have hPc : va_P D vwCl wc H := hP.sub isC (by have h7 := congrArg (fun l => l.filterMap id) hT.1; simpa [List.filterMap_map, Function.comp_def] using h7)
  have hDc : va_D A wc := hD.sub isC hT.2.1 hT.1
  have hFc := va_free (wc := wc) hD hS C.2.2.2.2.2.2.1 isC hT.1
  refine va_callv (va_runV (As := As) (rest := st) ⟨C.1, C.2.1, C.2.2.1, C.2.2.2.1, C.2.2.2.2.1⟩ (hM H.size) (cwV n C.2.2.2.2.1 hG hw0 rfl rfl hd hR) ⟨blindW, va_recv C.2.2.2.2.2.1 hP hci hrc, fun U hU hW => ⟨rfl, by rw [hU], by rw [hU]; exact hPc, va_K.moved hW.alike C.2.2.2.2.2.1, hDc.weaken (fun _ _ _ _ => trivial)⟩⟩ rfl hn hl.1 hstk (lv_room hcat) hdg hf) hS (fun q _ h => hFc q h) hFc (fun u t H1 locs1 ht hvm hw hB hz1 hk1 hS1 => ?_)
  obtain ⟨hP1, hK1, hD1⟩ := hB
  rw [ht] at hP1
  obtain ⟨hP, hD⟩ := hT.join hP hD hk1 hFc u hP1 hD1
  exact kk u hw H1 locs1 ls hP hD hS1 hl
theorem V_callSV (C : Cx p s m args meth c cc nL own ret Ts D tys A)  {y : MethodName} {wsY wsY' : List Cond} {rmY : Room} {As : List Value} {wc : va_W} {S : Type} {post : S → Prop} {wc' ws' : S → va_W} (hM : MetV l y wsY rmY D tys (As) wc post wc') {bytes : ByteArray} {maxLY idx : Nat} {retY : Option FieldType} (hw0 : wsY = Cond.code y bytes maxLY retY :: wsY') (n : Nat)
    (hG : GoodIn Ts (va_wsS own idx y wsY)) (hd : y.cls ≠ "java/lang/invoke/MethodHandle" ∧ y.cls ≠ "java/lang/invoke/VarHandle" ∧ (parseMethodDescriptor y.desc).map (fun d => d.parameters.length) = some n) (hR : rmY.frames + 1 ≤ R.frames ∧ 8 + (maxLY + 11) + rmY.locals ≤ R.locals) (hn : As.length = n)  (isC isR pm : List Nat) (hT : Cut ws wc wc' ws' isC isR pm) {stk : List Value} (hstk : stk = As.reverse ++ st) (hcat : (st.map fun v => v.category).sum ≤ 8) {pc' : Nat} (hdg : decode cc pc = .ok (.invokestatic idx, 3)) (hp : pc + 3 = pc') (hf : cells + rmY.cells ≤ R.cells ∧ slots + rmY.slots ≤ R.slots)
    (kk : ∀ u : S, post u → V p l e R s m args below meth c nL D A Q (cells + rmY.cells) (slots + rmY.slots) (ws' u) pc' lv st) : V p l e R s m args below meth c nL D A Q cells slots ws pc lv stk := by
  subst hp
  intro H locs ls hP hD hS hl
  have hPc : va_P D vwCl wc H := hP.sub isC (by have h7 := congrArg (fun l => l.filterMap id) hT.1; simpa [List.filterMap_map, Function.comp_def] using h7)
  have hDc : va_D A wc := hD.sub isC hT.2.1 hT.1
  have hFc := va_free (wc := wc) hD hS C.2.2.2.2.2.2.1 isC hT.1
  refine va_callv (va_runS (As := As) (rest := st) ⟨C.1, C.2.1, C.2.2.1, C.2.2.2.1, C.2.2.2.2.1⟩ (hM H.size) (va_cwS n C.2.2.2.2.1 hG hw0 rfl rfl hd hR) ⟨blindW, fun U hU hW => ⟨rfl, by rw [hU], by rw [hU]; exact hPc, va_K.moved hW.alike C.2.2.2.2.2.1, hDc.weaken (fun _ _ _ _ => trivial)⟩⟩ rfl hn hl.1 hstk (lv_room hcat) hdg hf) hS (fun q _ h => hFc q h) hFc (fun u t H1 locs1 ht hvm hw hB hz1 hk1 hS1 => ?_)
  obtain ⟨hP1, hK1, hD1⟩ := hB
  rw [ht] at hP1
  obtain ⟨hP, hD⟩ := hT.join hP hD hk1 hFc u hP1 hD1
  exact kk u hw H1 locs1 ls hP hD hS1 hl
theorem V_callCV (C : Cx p s m args meth c cc nL own ret Ts D tys A) {b : Nat} {y : MethodName} {wsY wsY' : List Cond} {rmY : Room} {As : List Value} {wc : va_W} {S : Type} {post : S → Prop} {wc' ws' : S → va_W} (hM : MetV l y wsY rmY D tys (.ref b :: As) wc post wc') {bytes : ByteArray} {maxLY idx : Nat} {retY : Option FieldType} (hw0 : wsY = Cond.code y bytes maxLY none :: wsY') (n : Nat)
    (hG : GoodIn Ts wsY) (hini : Cond.initialized y.cls ∈ Ts) (hlk : Cond.methodLink own idx y ∈ Ts) (him : Cond.instanceMethod y ∈ Ts) (hy1 : y.name = "<init>") (hd : y.cls ≠ "java/lang/invoke/MethodHandle" ∧ y.cls ≠ "java/lang/invoke/VarHandle" ∧ (parseMethodDescriptor y.desc).map (fun d => d.parameters.length) = some n) (hR : rmY.frames + 1 ≤ R.frames ∧ 8 + (maxLY + 11) + rmY.locals ≤ R.locals) (hn : As.length = n)  (isC isR pm : List Nat) (hT : Cut ws wc wc' ws' isC isR pm) {stk : List Value} (hstk : stk = As.reverse ++ .ref b :: st) (hcat : (st.map fun v => v.category).sum ≤ 8) {pc' : Nat} (hdg : decode cc pc = .ok (.invokespecial idx, 3)) (hp : pc + 3 = pc') (hf : cells + rmY.cells ≤ R.cells ∧ slots + rmY.slots ≤ R.slots)
    (kk : ∀ u : S, post u → V p l e R s m args below meth c nL D A Q (cells + rmY.cells) (slots + rmY.slots) (ws' u) pc' lv st) : V p l e R s m args below meth c nL D A Q cells slots ws pc lv stk := by
  subst hp
  intro H locs ls hP hD hS hl
  have hPc : va_P D vwCl wc H := hP.sub isC (by have h7 := congrArg (fun l => l.filterMap id) hT.1; simpa [List.filterMap_map, Function.comp_def] using h7)
  have hDc : va_D A wc := hD.sub isC hT.2.1 hT.1
  have hFc := va_free (wc := wc) hD hS C.2.2.2.2.2.2.1 isC hT.1
  refine va_callv (va_runI (As := As) (rest := st) ⟨C.1, C.2.1, C.2.2.1, C.2.2.2.1, C.2.2.2.2.1⟩ (hM H.size) (cwI n C.2.2.2.2.1 hG hw0 rfl rfl (C.2.2.2.2.1 _ hini) (C.2.2.2.2.1 _ hlk) (C.2.2.2.2.1 _ him) hy1 hd hR) ⟨blindW, fun U hU hW => ⟨rfl, by rw [hU], by rw [hU]; exact hPc, va_K.moved hW.alike C.2.2.2.2.2.1, hDc.weaken (fun _ _ _ _ => trivial)⟩⟩ rfl hn hl.1 hstk (lv_room hcat) hdg hf) hS (fun q _ h => hFc q h) hFc (fun u t H1 locs1 ht hvm hw hB hz1 hk1 hS1 => ?_)
  obtain ⟨hP1, hK1, hD1⟩ := hB
  rw [ht] at hP1
  obtain ⟨hP, hD⟩ := hT.join hP hD hk1 hFc u hP1 hD1
  exact kk u hw H1 locs1 ls hP hD hS1 hl
theorem V_cVI (C : Cx p s m args meth c cc nL own ret Ts D tys A) {Cn : String} {b : Nat} {y : MethodName} {wsY wsY' : List Cond} {rmY : Room} {As : List Value} {wc : va_W} {r0 : Int32} {wc' ws' : va_W} (hM : MetI l y wsY rmY D tys (.ref b :: As) wc (fun r (_ : Unit) => r = r0) (fun _ => wc')) {bytes : ByteArray} {maxLY idx : Nat} {retY : Option FieldType} (hw0 : wsY = Cond.code y bytes maxLY retY :: wsY') (n : Nat)
    (hG : GoodIn Ts (wsV own idx Cn y wsY)) (hd : y.cls = Cn ∧ y.cls ≠ "java/lang/invoke/MethodHandle" ∧ y.cls ≠ "java/lang/invoke/VarHandle" ∧ (parseMethodDescriptor y.desc).map (fun d => d.parameters.length) = some n) (hR : rmY.frames + 1 ≤ R.frames ∧ 8 + (maxLY + 11) + rmY.locals ≤ R.locals) (hn : As.length = n) (qr ci : Nat) {fs : List Value} {T : u_T} {N : Nat} (hrc : ws[qr]? = some (b, .inr (ci, fs))) (hci : vwCl[ci]? = some (Cn, T, N)) (isC isR pm : List Nat) (hT : Cut ws wc (fun _ : Unit => wc') (fun _ => ws') isC isR pm) {stk : List Value} (hstk : stk = As.reverse ++ .ref b :: st) (hcat : (st.map fun v => v.category).sum ≤ 8) {pc' : Nat} (hdg : decode cc pc = .ok (.invokevirtual idx, 3)) (hp : pc + 3 = pc') (hf : cells + rmY.cells ≤ R.cells ∧ slots + rmY.slots ≤ R.slots)
    (kk : V p l e R s m args below meth c nL D A Q (cells + rmY.cells) (slots + rmY.slots) ws' pc' lv (.int r0 :: st)) : V p l e R s m args below meth c nL D A Q cells slots ws pc lv stk :=
  V_callVI C hM hw0 n hG hd hR hn qr ci hrc hci isC isR pm hT hstk hcat hdg hp hf (fun r u hr => by subst hr; exact kk)
theorem V_cSI (C : Cx p s m args meth c cc nL own ret Ts D tys A)  {y : MethodName} {wsY wsY' : List Cond} {rmY : Room} {As : List Value} {wc : va_W} {r0 : Int32} {wc' ws' : va_W} (hM : MetI l y wsY rmY D tys (As) wc (fun r (_ : Unit) => r = r0) (fun _ => wc')) {bytes : ByteArray} {maxLY idx : Nat} {retY : Option FieldType} (hw0 : wsY = Cond.code y bytes maxLY retY :: wsY') (n : Nat)
    (hG : GoodIn Ts (va_wsS own idx y wsY)) (hd : y.cls ≠ "java/lang/invoke/MethodHandle" ∧ y.cls ≠ "java/lang/invoke/VarHandle" ∧ (parseMethodDescriptor y.desc).map (fun d => d.parameters.length) = some n) (hR : rmY.frames + 1 ≤ R.frames ∧ 8 + (maxLY + 11) + rmY.locals ≤ R.locals) (hn : As.length = n)  (isC isR pm : List Nat) (hT : Cut ws wc (fun _ : Unit => wc') (fun _ => ws') isC isR pm) {stk : List Value} (hstk : stk = As.reverse ++ st) (hcat : (st.map fun v => v.category).sum ≤ 8) {pc' : Nat} (hdg : decode cc pc = .ok (.invokestatic idx, 3)) (hp : pc + 3 = pc') (hf : cells + rmY.cells ≤ R.cells ∧ slots + rmY.slots ≤ R.slots)
    (kk : V p l e R s m args below meth c nL D A Q (cells + rmY.cells) (slots + rmY.slots) ws' pc' lv (.int r0 :: st)) : V p l e R s m args below meth c nL D A Q cells slots ws pc lv stk :=
  V_callSI C hM hw0 n hG hd hR hn isC isR pm hT hstk hcat hdg hp hf (fun r u hr => by subst hr; exact kk)
theorem V_cVL (C : Cx p s m args meth c cc nL own ret Ts D tys A) {Cn : String} {b : Nat} {y : MethodName} {wsY wsY' : List Cond} {rmY : Room} {As : List Value} {wc : va_W} {r0 : Int64} {wc' ws' : va_W} (hM : MetL l y wsY rmY D tys (.ref b :: As) wc (fun r (_ : Unit) => r = r0) (fun _ => wc')) {bytes : ByteArray} {maxLY idx : Nat} {retY : Option FieldType} (hw0 : wsY = Cond.code y bytes maxLY retY :: wsY') (n : Nat)
    (hG : GoodIn Ts (wsV own idx Cn y wsY)) (hd : y.cls = Cn ∧ y.cls ≠ "java/lang/invoke/MethodHandle" ∧ y.cls ≠ "java/lang/invoke/VarHandle" ∧ (parseMethodDescriptor y.desc).map (fun d => d.parameters.length) = some n) (hR : rmY.frames + 1 ≤ R.frames ∧ 8 + (maxLY + 11) + rmY.locals ≤ R.locals) (hn : As.length = n) (qr ci : Nat) {fs : List Value} {T : u_T} {N : Nat} (hrc : ws[qr]? = some (b, .inr (ci, fs))) (hci : vwCl[ci]? = some (Cn, T, N)) (isC isR pm : List Nat) (hT : Cut ws wc (fun _ : Unit => wc') (fun _ => ws') isC isR pm) {stk : List Value} (hstk : stk = As.reverse ++ .ref b :: st) (hcat : (st.map fun v => v.category).sum ≤ 8) {pc' : Nat} (hdg : decode cc pc = .ok (.invokevirtual idx, 3)) (hp : pc + 3 = pc') (hf : cells + rmY.cells ≤ R.cells ∧ slots + rmY.slots ≤ R.slots)
    (kk : V p l e R s m args below meth c nL D A Q (cells + rmY.cells) (slots + rmY.slots) ws' pc' lv (.long r0 :: st)) : V p l e R s m args below meth c nL D A Q cells slots ws pc lv stk :=
  V_callVL C hM hw0 n hG hd hR hn qr ci hrc hci isC isR pm hT hstk hcat hdg hp hf (fun r u hr => by subst hr; exact kk)
theorem V_cSL (C : Cx p s m args meth c cc nL own ret Ts D tys A)  {y : MethodName} {wsY wsY' : List Cond} {rmY : Room} {As : List Value} {wc : va_W} {r0 : Int64} {wc' ws' : va_W} (hM : MetL l y wsY rmY D tys (As) wc (fun r (_ : Unit) => r = r0) (fun _ => wc')) {bytes : ByteArray} {maxLY idx : Nat} {retY : Option FieldType} (hw0 : wsY = Cond.code y bytes maxLY retY :: wsY') (n : Nat)
    (hG : GoodIn Ts (va_wsS own idx y wsY)) (hd : y.cls ≠ "java/lang/invoke/MethodHandle" ∧ y.cls ≠ "java/lang/invoke/VarHandle" ∧ (parseMethodDescriptor y.desc).map (fun d => d.parameters.length) = some n) (hR : rmY.frames + 1 ≤ R.frames ∧ 8 + (maxLY + 11) + rmY.locals ≤ R.locals) (hn : As.length = n)  (isC isR pm : List Nat) (hT : Cut ws wc (fun _ : Unit => wc') (fun _ => ws') isC isR pm) {stk : List Value} (hstk : stk = As.reverse ++ st) (hcat : (st.map fun v => v.category).sum ≤ 8) {pc' : Nat} (hdg : decode cc pc = .ok (.invokestatic idx, 3)) (hp : pc + 3 = pc') (hf : cells + rmY.cells ≤ R.cells ∧ slots + rmY.slots ≤ R.slots)
    (kk : V p l e R s m args below meth c nL D A Q (cells + rmY.cells) (slots + rmY.slots) ws' pc' lv (.long r0 :: st)) : V p l e R s m args below meth c nL D A Q cells slots ws pc lv stk :=
  V_callSL C hM hw0 n hG hd hR hn isC isR pm hT hstk hcat hdg hp hf (fun r u hr => by subst hr; exact kk)
theorem V_cVV (C : Cx p s m args meth c cc nL own ret Ts D tys A) {Cn : String} {b : Nat} {y : MethodName} {wsY wsY' : List Cond} {rmY : Room} {As : List Value} {wc : va_W} {wc' ws' : va_W} (hM : MetV l y wsY rmY D tys (.ref b :: As) wc (fun _ : Unit => True) (fun _ => wc')) {bytes : ByteArray} {maxLY idx : Nat} {retY : Option FieldType} (hw0 : wsY = Cond.code y bytes maxLY retY :: wsY') (n : Nat)
    (hG : GoodIn Ts (wsV own idx Cn y wsY)) (hd : y.cls = Cn ∧ y.cls ≠ "java/lang/invoke/MethodHandle" ∧ y.cls ≠ "java/lang/invoke/VarHandle" ∧ (parseMethodDescriptor y.desc).map (fun d => d.parameters.length) = some n) (hR : rmY.frames + 1 ≤ R.frames ∧ 8 + (maxLY + 11) + rmY.locals ≤ R.locals) (hn : As.length = n) (qr ci : Nat) {fs : List Value} {T : u_T} {N : Nat} (hrc : ws[qr]? = some (b, .inr (ci, fs))) (hci : vwCl[ci]? = some (Cn, T, N)) (isC isR pm : List Nat) (hT : Cut ws wc (fun _ : Unit => wc') (fun _ => ws') isC isR pm) {stk : List Value} (hstk : stk = As.reverse ++ .ref b :: st) (hcat : (st.map fun v => v.category).sum ≤ 8) {pc' : Nat} (hdg : decode cc pc = .ok (.invokevirtual idx, 3)) (hp : pc + 3 = pc') (hf : cells + rmY.cells ≤ R.cells ∧ slots + rmY.slots ≤ R.slots)
    (kk : V p l e R s m args below meth c nL D A Q (cells + rmY.cells) (slots + rmY.slots) ws' pc' lv st) : V p l e R s m args below meth c nL D A Q cells slots ws pc lv stk :=
  V_callVV C hM hw0 n hG hd hR hn qr ci hrc hci isC isR pm hT hstk hcat hdg hp hf (fun u _ => kk)
theorem V_cSV (C : Cx p s m args meth c cc nL own ret Ts D tys A)  {y : MethodName} {wsY wsY' : List Cond} {rmY : Room} {As : List Value} {wc : va_W} {wc' ws' : va_W} (hM : MetV l y wsY rmY D tys (As) wc (fun _ : Unit => True) (fun _ => wc')) {bytes : ByteArray} {maxLY idx : Nat} {retY : Option FieldType} (hw0 : wsY = Cond.code y bytes maxLY retY :: wsY') (n : Nat)
    (hG : GoodIn Ts (va_wsS own idx y wsY)) (hd : y.cls ≠ "java/lang/invoke/MethodHandle" ∧ y.cls ≠ "java/lang/invoke/VarHandle" ∧ (parseMethodDescriptor y.desc).map (fun d => d.parameters.length) = some n) (hR : rmY.frames + 1 ≤ R.frames ∧ 8 + (maxLY + 11) + rmY.locals ≤ R.locals) (hn : As.length = n)  (isC isR pm : List Nat) (hT : Cut ws wc (fun _ : Unit => wc') (fun _ => ws') isC isR pm) {stk : List Value} (hstk : stk = As.reverse ++ st) (hcat : (st.map fun v => v.category).sum ≤ 8) {pc' : Nat} (hdg : decode cc pc = .ok (.invokestatic idx, 3)) (hp : pc + 3 = pc') (hf : cells + rmY.cells ≤ R.cells ∧ slots + rmY.slots ≤ R.slots)
    (kk : V p l e R s m args below meth c nL D A Q (cells + rmY.cells) (slots + rmY.slots) ws' pc' lv st) : V p l e R s m args below meth c nL D A Q cells slots ws pc lv stk :=
  V_callSV C hM hw0 n hG hd hR hn isC isR pm hT hstk hcat hdg hp hf (fun u _ => kk)
theorem some_inv {α : Type} {a o : α} (h : some a = some o) : a = o := Option.some.inj h
def jn {T β : Type} (J : T) (body : T → Option β) : Option β := body J
theorem jn_elim {T β : Type} {J : T} {body : T → Option β} {o : β} {G : Prop} (h : jn J body = some o) (P : T → Prop) (hJ : P J) (hk : ∀ J', P J' → body J' = some o → G) : G := hk J hJ h
def bd {α β : Type} (a : α) (k : α → Option β) : Option β := k a
theorem bd_inv {α β : Type} {a y : α} {k : α → Option β} {o : β} (ey : y = a) (h : bd a k = some o) : k y = some o := by subst ey; exact h
theorem V_topi {x : Int32} (k : ∀ y : Int32, y = x → V p l e R s m args below meth c nL D A Q cells slots ws pc lv (.int y :: st)) : V p l e R s m args below meth c nL D A Q cells slots ws pc lv (.int x :: st) := k x rfl
theorem V_topl {x : Int64} (k : ∀ y : Int64, y = x → V p l e R s m args below meth c nL D A Q cells slots ws pc lv (.long y :: st)) : V p l e R s m args below meth c nL D A Q cells slots ws pc lv (.long x :: st) := k x rfl
theorem V_tableIn (C : Cx p s m args meth c cc nL own ret Ts D tys A) {dflt lo hi : Int} {offs : Array Int} {len : Nat} {x v : Int32} {off : Int} {tgt : Nat} (hx : x = v) (hdg : decode cc pc = .ok (.tableswitch dflt lo hi offs, len)) (h1 : ¬ v.toInt < lo) (h2 : ¬ hi < v.toInt) (ho : offs[(v.toInt - lo).toNat]? = some off) (ht : (pc : Int) + off = (tgt : Int))
    (kk : V p l e R s m args below meth c nL D A Q cells slots ws tgt lv st) : V p l e R s m args below meth c nL D A Q cells slots ws pc lv (.int x :: st) := by
  subst hx
  exact fun H locs ls hP hD hS hl => lv_tableIn C.1 C.2.1 hdg h1 h2 ho ht (kk H locs ls hP hD hS hl)
theorem V_tableOut (C : Cx p s m args meth c cc nL own ret Ts D tys A) {dflt lo hi : Int} {offs : Array Int} {len : Nat} {x : Int32} {tgt : Nat} (hdg : decode cc pc = .ok (.tableswitch dflt lo hi offs, len)) (h : x.toInt < lo ∨ hi < x.toInt) (ht : (pc : Int) + dflt = (tgt : Int))
    (kk : V p l e R s m args below meth c nL D A Q cells slots ws tgt lv st) : V p l e R s m args below meth c nL D A Q cells slots ws pc lv (.int x :: st) := fun H locs ls hP hD hS hl => lv_tableOut C.1 C.2.1 hdg h ht (kk H locs ls hP hD hS hl)
theorem tb_out {lo hi : Int} {x : Int32} (h : ∀ k : Int, lo ≤ k → k ≤ hi → ¬ x = Int32.ofInt k) : x.toInt < lo ∨ hi < x.toInt := by
  by_cases h1 : x.toInt < lo
  · exact Or.inl h1
  · by_cases h2 : hi < x.toInt
    · exact Or.inr h2
    · exact absurd (Int32.ofInt_toInt x).symm (h x.toInt (Int.not_lt.mp h1) (Int.not_lt.mp h2))
end VV
end
section
/-! the state of each object of the classes, as a value; its cells -/
abbrev CV : Type := Int32 × (Nat → Int32) × (Nat → Int32) × (Nat → Int32) × Int32 × (Nat → Int32) × (Nat → Int32) × (Nat → Int32)
-- pieces, pieceText, pieceLetters, pieceWeight, words, wordLetters, wordCount, letters
abbrev W_C (cI cJ cZ cO : ClassId) (a : Nat → Nat) (v : CV) : va_W := [(a 0, .inr (2, [.int v.1, .ref (a 1), .ref (a 2), .ref (a 3), .int v.2.2.2.2.1, .ref (a 4), .ref (a 5), .ref (a 6)])), (a 1, .inl (cI, 16, .inl v.2.1)), (a 2, .inl (cI, 16, .inl v.2.2.1)), (a 3, .inl (cI, 16, .inl v.2.2.2.1)), (a 4, .inl (cI, 8, .inl v.2.2.2.2.2.1)), (a 5, .inl (cI, 8, .inl v.2.2.2.2.2.2.1)), (a 6, .inl (cI, 96, .inl v.2.2.2.2.2.2.2))]
abbrev PV : Type := Int32 × (Nat → Int32)
-- length, codes
abbrev W_P (cI cJ cZ cO : ClassId) (a : Nat → Nat) (v : PV) : va_W := [(a 0, .inr (6, [.int v.1, .ref (a 1)])), (a 1, .inl (cI, 16, .inl v.2))]
abbrev LV : Type := Int32 × (Nat → Int32) × (Nat → Int32) × (Nat → Int32)
-- length, text, piece, weightOf
abbrev W_L (cI cJ cZ cO : ClassId) (a : Nat → Nat) (v : LV) : va_W := [(a 0, .inr (4, [.int v.1, .ref (a 1), .ref (a 2), .ref (a 3)])), (a 1, .inl (cI, 48, .inl v.2.1)), (a 2, .inl (cI, 48, .inl v.2.2.1)), (a 3, .inl (cI, 16, .inl v.2.2.2))]
abbrev BV : Type := (Nat → Int64) × (Nat → Int32) × (Nat → Int32) × Int32 × Int32 × (Nat → Int32) × (Nat → Int32) × (Nat → Int32)
-- restProduct, restParts, restFirst, parts, unseen, partPiece, partPlace, partLetters
abbrev W_B (cI cJ cZ cO : ClassId) (a : Nat → Nat) (v : BV) : va_W := [(a 0, .inr (1, [.ref (a 1), .ref (a 2), .ref (a 3), .int v.2.2.2.1, .int v.2.2.2.2.1, .ref (a 4), .ref (a 5), .ref (a 6)])), (a 1, .inl (cJ, 13, .inr (.inl v.1))), (a 2, .inl (cI, 13, .inl v.2.1)), (a 3, .inl (cI, 13, .inl v.2.2.1)), (a 4, .inl (cI, 12, .inl v.2.2.2.2.2.1)), (a 5, .inl (cI, 12, .inl v.2.2.2.2.2.2.1)), (a 6, .inl (cI, 12, .inl v.2.2.2.2.2.2.2))]
abbrev AV : Type := (Nat → Int64) × (Nat → Int64) × (Nat → Int32)
-- before, behind, cutsBehind
abbrev W_A (cI cJ cZ cO : ClassId) (a : Nat → Nat) (v : AV) : va_W := [(a 0, .inr (0, [.ref (a 1), .ref (a 2), .ref (a 3)])), (a 1, .inl (cJ, 13, .inr (.inl v.1))), (a 2, .inl (cJ, 13, .inr (.inl v.2.1))), (a 3, .inl (cI, 13, .inl v.2.2))]
abbrev NV : Type := Int32 × (Nat → Int32) × (Nat → Int32) × (Nat → Int32) × (Nat → Int32)
-- size, text, letters, weight, times
abbrev W_N (cI cJ cZ cO : ClassId) (a : Nat → Nat) (v : NV) : va_W := [(a 0, .inr (5, [.int v.1, .ref (a 1), .ref (a 2), .ref (a 3), .ref (a 4)])), (a 1, .inl (cI, 88, .inl v.2.1)), (a 2, .inl (cI, 88, .inl v.2.2.1)), (a 3, .inl (cI, 88, .inl v.2.2.2.1)), (a 4, .inl (cI, 88, .inl v.2.2.2.2))]
abbrev MV : Type := (Nat → Int32) × (Nat → Int32) × (Nat → Int32) × Int32 × (Nat → Int32) × (Nat → Int32) × (Nat → Int32) × Int32 × (Nat → Int64) × (Nat → Int32) × (Nat → Int32) × (Nat → Int64) × (Nat → Int64) × (Nat → Int32) × (Nat → Int32) × (Nat → Int32) × Int32 × (Nat → Int32)
-- state, kept, history, recorded, slots, isSaved, pad, padLength, products, parts, lengths, ahead, behind, texts, counts, weights, neighbours, bears
abbrev W_M (cI cJ cZ cO : ClassId) (a : Nat → Nat) (v : MV) : va_W := [(a 0, .inr (8, [.ref (a 1), .ref (a 2), .ref (a 3), .int v.2.2.2.1, .ref (a 4), .ref (a 5), .ref (a 6), .int v.2.2.2.2.2.2.2.1, .ref (a 7), .ref (a 8), .ref (a 9), .ref (a 10), .ref (a 11), .ref (a 12), .ref (a 13), .ref (a 14), .int v.2.2.2.2.2.2.2.2.2.2.2.2.2.2.2.2.1, .ref (a 15)])), (a 1, .inl (cI, 210, .inl v.1)), (a 2, .inl (cI, 210, .inl v.2.1)), (a 3, .inl (cI, 1260, .inl v.2.2.1)), (a 4, .inl (cI, 420, .inl v.2.2.2.2.1)), (a 5, .inl (cI, 2, .inl v.2.2.2.2.2.1)), (a 6, .inl (cI, 16, .inl v.2.2.2.2.2.2.1)), (a 7, .inl (cJ, 13, .inr (.inl v.2.2.2.2.2.2.2.2.1))), (a 8, .inl (cI, 13, .inl v.2.2.2.2.2.2.2.2.2.1)), (a 9, .inl (cI, 13, .inl v.2.2.2.2.2.2.2.2.2.2.1)), (a 10, .inl (cJ, 13, .inr (.inl v.2.2.2.2.2.2.2.2.2.2.2.1))), (a 11, .inl (cJ, 13, .inr (.inl v.2.2.2.2.2.2.2.2.2.2.2.2.1))), (a 12, .inl (cI, 88, .inl v.2.2.2.2.2.2.2.2.2.2.2.2.2.1)), (a 13, .inl (cI, 88, .inl v.2.2.2.2.2.2.2.2.2.2.2.2.2.2.1)), (a 14, .inl (cI, 88, .inl v.2.2.2.2.2.2.2.2.2.2.2.2.2.2.2.1)), (a 15, .inl (cI, 16, .inl v.2.2.2.2.2.2.2.2.2.2.2.2.2.2.2.2.2))]
abbrev W_RI (cI cJ cZ cO : ClassId) (a : Nat → Nat) (n : Nat) (v : Nat → Int32) : va_W := [(a 0, .inl (cI, n, .inl v))]
abbrev W_RJ (cI cJ cZ cO : ClassId) (a : Nat → Nat) (n : Nat) (v : Nat → Int64) : va_W := [(a 0, .inl (cJ, n, .inr (.inl v)))]
abbrev W_BN (cI cJ cZ cO : ClassId) (ab : Nat → Nat) (v : Nat → Int32) : va_W := [(ab 3, .inl (cI, 16, .inl v))]
abbrev W_CW (cI cJ cZ cO : ClassId) (ab : Nat → Nat) (v : Nat → Int32) : va_W := [(ab 4, .inl (cI, 16, .inl v))]
abbrev SV : Type := CV × CV × (Nat → Int32)
abbrev HV : Type := Int32 × CV × CV × CV × CV × CV × CV
abbrev W_BO (cI cJ cZ cO : ClassId) (ab ac_ atr ah ap al abc aac anb : Nat → Nat) : va_W := [(ab 0, .inr (7, [.ref (ac_ 0), .ref (atr 0), .ref (ab 1), .ref (ab 2), .ref (ah 0), .ref (ap 0), .ref (al 0), .ref (abc 0), .ref (aac 0), .ref (anb 0), .ref (ab 3), .ref (ab 4)]))]
abbrev rfs (as : Nat → Nat → Nat) : Nat → Option Nat := fun k => some (as k 0)
abbrev W_S (cI cJ cZ cO : ClassId) (ab : Nat → Nat) (as : Nat → Nat → Nat) (v : SV) : va_W := [(ab 1, .inl (cO, 2, .inr (.inr (.inr (.inr (rfs as)))))), (ab 2, .inl (cZ, 2, .inl v.2.2))] ++ (W_C cI cJ cZ cO (as 0) v.1 ++ W_C cI cJ cZ cO (as 1) v.2.1)
abbrev W_H (cI cJ cZ cO : ClassId) (ah : Nat → Nat) (as : Nat → Nat → Nat) (v : HV) : va_W := [(ah 0, .inr (3, [.int v.1, .ref (ah 1)])), (ah 1, .inl (cO, 6, .inr (.inr (.inr (.inr (rfs as))))))] ++ (W_C cI cJ cZ cO (as 0) v.2.1 ++ (W_C cI cJ cZ cO (as 1) v.2.2.1 ++ (W_C cI cJ cZ cO (as 2) v.2.2.2.1 ++ (W_C cI cJ cZ cO (as 3) v.2.2.2.2.1 ++ (W_C cI cJ cZ cO (as 4) v.2.2.2.2.2.1 ++ W_C cI cJ cZ cO (as 5) v.2.2.2.2.2.2)))))
abbrev TY (cI cJ cZ cO : ClassId) : List (ClassId × FieldType) := [(cI, .int), (cJ, .long), (cZ, .boolean), (cO, .object "SyllableBook$Contents")]
def ushr (x : Int64) (y : Int32) : Int64 := (x.toUInt64 >>> (y.toInt64.toUInt64 &&& Int64.toUInt64 63)).toInt64
end
section
def f_X6_append (N : Nat) (pd : PV) (x1 : Int32) : Option (PV) := if pd.1 < 16 then ck pd.1 16 (some ((pd.1 + 1, upd pd.2 (pd.1.toNatClampNeg) x1))) else some pd
def f_X6_letterAt (N : Nat) (pd : PV) (x1 : Int32) : Option (Int32) := ck x1 16 (some ((pd.2 (x1.toNatClampNeg)) - 97))
def f_X6_firstNoLetter_L2 (N : Nat) (pd : PV)  (K : Int32 → Option (Int32)) : Nat → Int32 → Option (Int32)
  | 0, _ => none
  | n+1, x1 => if pd.1 ≤ x1 then K x1 else (f_X6_letterAt N pd x1).bind (fun (r_12 : Int32) => if r_12 < 0 then K x1 else (f_X6_letterAt N pd x1).bind (fun (r_20 : Int32) => if 6 ≤ r_20 then K x1 else f_X6_firstNoLetter_L2 N pd  K n (x1 + 1)))
def f_X6_firstNoLetter (N : Nat) (pd : PV) : Option (Int32) := f_X6_firstNoLetter_L2 N pd  (fun (x1_2 : Int32) => some x1_2) N 0
def f_X6_holdsLetters (N : Nat) (pd : PV) (x1 : Int32) : Option (Int32) := if pd.1 < 1 then some 0 else if x1 < pd.1 then some 0 else (f_X6_firstNoLetter N pd ).bind (fun (r_17 : Int32) => if r_17 = pd.1 then some 1 else some 0)
def f_X6_text_L4 (N : Nat) (pd : PV)  (K : Int32 → Option (Int32)) : Nat → Int32 → Int32 → Option (Int32)
  | 0, _, _ => none
  | n+1, x1, x2 => if pd.1 ≤ x2 then K x1 else (f_X6_letterAt N pd x2).bind (fun (r_17 : Int32) => bd ((x1 <<< (3 &&& 31)) ||| (r_17 + 1)) (fun (x1_1 : Int32) => f_X6_text_L4 N pd  K n x1_1 (x2 + 1)))
def f_X6_text (N : Nat) (pd : PV) : Option (Int32) := f_X6_text_L4 N pd  (fun (x1_4 : Int32) => some x1_4) N 0 0
def f_X2_copyFrom (N : Nat) (ct : CV) (oc : CV) : Option (CV) := ckc 0 0 16 16 16 (ckc 0 0 16 16 16 (ckc 0 0 16 16 16 (ckc 0 0 8 8 8 (ckc 0 0 8 8 8 (ckc 0 0 96 96 96 (some ((oc.1, va_cpy oc.2.1 ct.2.1 ((0 : Int32).toNatClampNeg) ((0 : Int32).toNatClampNeg) ((16 : Int32).toNatClampNeg), va_cpy oc.2.2.1 ct.2.2.1 ((0 : Int32).toNatClampNeg) ((0 : Int32).toNatClampNeg) ((16 : Int32).toNatClampNeg), va_cpy oc.2.2.2.1 ct.2.2.2.1 ((0 : Int32).toNatClampNeg) ((0 : Int32).toNatClampNeg) ((16 : Int32).toNatClampNeg), oc.2.2.2.2.1, va_cpy oc.2.2.2.2.2.1 ct.2.2.2.2.2.1 ((0 : Int32).toNatClampNeg) ((0 : Int32).toNatClampNeg) ((8 : Int32).toNatClampNeg), va_cpy oc.2.2.2.2.2.2.1 ct.2.2.2.2.2.2.1 ((0 : Int32).toNatClampNeg) ((0 : Int32).toNatClampNeg) ((8 : Int32).toNatClampNeg), va_cpy oc.2.2.2.2.2.2.2 ct.2.2.2.2.2.2.2 ((0 : Int32).toNatClampNeg) ((0 : Int32).toNatClampNeg) ((96 : Int32).toNatClampNeg)))))))))
def f_X2_pieceWith_L2 (N : Nat) (ct : CV) (x1 : Int32)  (K : Unit → Option (Int32)) : Nat → Int32 → Option (Int32)
  | 0, _ => none
  | n+1, x2 => if ct.1 ≤ x2 then K () else ck x2 16 (if (ct.2.1 (x2.toNatClampNeg)) = x1 then some x2 else f_X2_pieceWith_L2 N ct x1  K n (x2 + 1))
def f_X2_pieceWith (N : Nat) (ct : CV) (x1 : Int32) : Option (Int32) := f_X2_pieceWith_L2 N ct x1  (fun (_ : Unit) => some ((-1))) N 0
def f_X2_addPiece (N : Nat) (ct : CV) (x1 : Int32) (x2 : Int32) (x3 : Int32) : Option (CV) := if ct.1 < 16 then ck ct.1 16 (ck ct.1 16 (ck ct.1 16 (some ((ct.1 + 1, upd ct.2.1 (ct.1.toNatClampNeg) x1, upd ct.2.2.1 (ct.1.toNatClampNeg) x2, upd ct.2.2.2.1 (ct.1.toNatClampNeg) x3, ct.2.2.2.2.1, ct.2.2.2.2.2.1, ct.2.2.2.2.2.2.1, ct.2.2.2.2.2.2.2))))) else some ct
def f_X2_removePiece (N : Nat) (ct : CV) (x1 : Int32) : Option (CV) := if x1 < 0 then some ct else if x1 < ct.1 then ckc (x1 + 1) x1 ((ct.1 - 1) - x1) 16 16 (ckc (x1 + 1) x1 ((ct.1 - 1) - x1) 16 16 (ckc (x1 + 1) x1 ((ct.1 - 1) - x1) 16 16 (some ((ct.1 - 1, va_cpy ct.2.1 ct.2.1 ((x1 + 1).toNatClampNeg) (x1.toNatClampNeg) (((ct.1 - 1) - x1).toNatClampNeg), va_cpy ct.2.2.1 ct.2.2.1 ((x1 + 1).toNatClampNeg) (x1.toNatClampNeg) (((ct.1 - 1) - x1).toNatClampNeg), va_cpy ct.2.2.2.1 ct.2.2.2.1 ((x1 + 1).toNatClampNeg) (x1.toNatClampNeg) (((ct.1 - 1) - x1).toNatClampNeg), ct.2.2.2.2.1, ct.2.2.2.2.2.1, ct.2.2.2.2.2.2.1, ct.2.2.2.2.2.2.2))))) else some ct
def f_X2_letterAt (N : Nat) (ct : CV) (x1 : Int32) (x2 : Int32) : Option (Int32) := ck ((x1 * 12) + x2) 96 (some (ct.2.2.2.2.2.2.2 (((x1 * 12) + x2).toNatClampNeg)))
def f_X2_addWord_L21 (N : Nat) (pd : PV) (x2 : Int32)  (K : CV → Option (CV)) : Nat → Int32 → CV → Option (CV)
  | 0, _, _ => none
  | n+1, x3, ct => if pd.1 ≤ x3 then K ct else (f_X6_letterAt N pd x3).bind (fun (r_44 : Int32) => ck ((ct.2.2.2.2.1 * 12) + x3) 96 (f_X2_addWord_L21 N pd x2  K n (x3 + 1) ((ct.1, ct.2.1, ct.2.2.1, ct.2.2.2.1, ct.2.2.2.2.1, ct.2.2.2.2.2.1, ct.2.2.2.2.2.2.1, upd ct.2.2.2.2.2.2.2 (((ct.2.2.2.2.1 * 12) + x3).toNatClampNeg) r_44))))
def f_X2_addWord (N : Nat) (ct : CV) (pd : PV) (x2 : Int32) : Option (CV) := if 8 ≤ ct.2.2.2.2.1 then some ct else if pd.1 ≤ 12 then f_X2_addWord_L21 N pd x2  (fun (ct_21 : CV) => ck ct_21.2.2.2.2.1 8 (ck ct_21.2.2.2.2.1 8 (some ((ct_21.1, ct_21.2.1, ct_21.2.2.1, ct_21.2.2.2.1, ct_21.2.2.2.2.1 + 1, upd ct_21.2.2.2.2.2.1 (ct_21.2.2.2.2.1.toNatClampNeg) pd.1, upd ct_21.2.2.2.2.2.2.1 (ct_21.2.2.2.2.1.toNatClampNeg) x2, ct_21.2.2.2.2.2.2.2))))) N 0 ct else some ct
def f_X2_removeWord (N : Nat) (ct : CV) (x1 : Int32) : Option (CV) := if x1 < 0 then some ct else if x1 < ct.2.2.2.2.1 then bd ((ct.2.2.2.2.1 - 1) - x1) (fun (x2_1 : Int32) => ckc (x1 + 1) x1 x2_1 8 8 (ckc (x1 + 1) x1 x2_1 8 8 (ckc ((x1 + 1) * 12) (x1 * 12) (x2_1 * 12) 96 96 (some ((ct.1, ct.2.1, ct.2.2.1, ct.2.2.2.1, ct.2.2.2.2.1 - 1, va_cpy ct.2.2.2.2.2.1 ct.2.2.2.2.2.1 ((x1 + 1).toNatClampNeg) (x1.toNatClampNeg) (x2_1.toNatClampNeg), va_cpy ct.2.2.2.2.2.2.1 ct.2.2.2.2.2.2.1 ((x1 + 1).toNatClampNeg) (x1.toNatClampNeg) (x2_1.toNatClampNeg), va_cpy ct.2.2.2.2.2.2.2 ct.2.2.2.2.2.2.2 (((x1 + 1) * 12).toNatClampNeg) ((x1 * 12).toNatClampNeg) ((x2_1 * 12).toNatClampNeg))))))) else some ct
abbrev RM_X6_append : Room := { frames := 0, cells := 0, slots := 0, locals := 0 }
theorem in_X6_append_X6 : ∀ w ∈ u_ws RX6 TX6 2, w ∈ wsX6_append := by decide +kernel
theorem fl_X6_append_9 : FL RX6 wsX6_append 6 9 1 RX6 TX6 2 := ⟨in_X6_append_X6, rfl, by decide, by decide +kernel, rfl⟩
theorem fl_X6_append_15 : FL RX6 wsX6_append 6 15 0 RX6 TX6 2 := ⟨in_X6_append_X6, rfl, by decide, by decide +kernel, rfl⟩
set_option maxRecDepth 100000 in
set_option maxHeartbeats 4000000 in
theorem c_X6_append (l : Launch) (dC : Nat → ClassId) (dI : Nat → Nat → Nat) (cI cJ cZ cO : ClassId) (ap : Nat → Nat) (N : Nat) (pd : PV) (x1 : Int32) (o : PV) (hf : f_X6_append N pd x1 = some o) : MetV l yX6_append wsX6_append RM_X6_append (dC, dI) (TY cI cJ cZ cO) [.ref (ap 0), .int x1] (W_P cI cJ cZ cO ap pd) (fun _ : Unit => True) (fun _ => (W_P cI cJ cZ cO ap o)) := by
  refine MetV.ofV (cc := cX6_append) (maxL := 2) (ret := none) (own := RX6) (lv0 := [(0, .ref (ap 0)), (1, .int x1)]) (by decide) rfl rfl (Nat.le_of_ble_eq_true rfl) rfl ?_
  intro p e s m below meth c A C0 _
  unfold f_X6_append at hf
  refine V_aload_n C0 dX6_append_0 0 rfl rfl ?_
  refine V_get C0 fl_X6_append_15 0 rfl rfl dX6_append_1 rfl ?_
  refine V_bipush (v := 16) C0 dX6_append_4 (by decide) rfl ?_
  refine V_icmp_lt (tgt := 10) C0 dX6_append_6 (by decide) rfl (fun c6 => ?_) (fun c6 => ?_)
  · have hf := ite_t c6 hf
    refine V_aload_n C0 dX6_append_10 0 rfl rfl ?_
    refine V_get C0 fl_X6_append_9 0 rfl rfl dX6_append_11 rfl ?_
    refine V_aload_n C0 dX6_append_14 0 rfl rfl ?_
    refine V_get C0 fl_X6_append_15 0 rfl rfl dX6_append_15 rfl ?_
    refine V_iload_n C0 dX6_append_18 1 rfl rfl ?_
    obtain ⟨hi19, hf⟩ := ck_inv hf
    refine V_iast (ws' := (W_P cI cJ cZ cO ap ((pd.1, upd pd.2 (pd.1.toNatClampNeg) x1)))) C0 1 0 rfl rfl hi19 dX6_append_19 rfl rfl ?_
    refine V_aload_n C0 dX6_append_20 0 rfl rfl ?_
    refine V_dup C0 dX6_append_21 rfl rfl ?_
    refine V_get C0 fl_X6_append_15 0 rfl rfl dX6_append_22 rfl ?_
    refine V_iconst (v := 1) C0 dX6_append_25 (by decide) rfl ?_
    refine V_iadd C0 dX6_append_26 rfl ?_
    refine V_put (ws' := (W_P cI cJ cZ cO ap ((pd.1 + 1, upd pd.2 (pd.1.toNatClampNeg) x1)))) C0 fl_X6_append_15 tyX6_ok nmX6 rfl 0 rfl rfl rfl (Nat.le_of_ble_eq_true rfl) dX6_append_27 rfl rfl ?_
    obtain rfl := some_inv hf
    exact V_vret C0 () trivial rfl dX6_append_30
  · have hf := ite_f c6 hf
    obtain rfl := some_inv hf
    exact V_vret C0 () trivial rfl dX6_append_9
abbrev RM_X6_letterAt : Room := { frames := 0, cells := 0, slots := 0, locals := 0 }
theorem in_X6_letterAt_X6 : ∀ w ∈ u_ws RX6 TX6 2, w ∈ wsX6_letterAt := by decide +kernel
theorem fl_X6_letterAt_9 : FL RX6 wsX6_letterAt 6 9 1 RX6 TX6 2 := ⟨in_X6_letterAt_X6, rfl, by decide, by decide +kernel, rfl⟩
set_option maxRecDepth 100000 in
set_option maxHeartbeats 4000000 in
theorem c_X6_letterAt (l : Launch) (dC : Nat → ClassId) (dI : Nat → Nat → Nat) (cI cJ cZ cO : ClassId) (ap : Nat → Nat) (N : Nat) (pd : PV) (x1 : Int32) (o : Int32) (hf : f_X6_letterAt N pd x1 = some o) : MetI l yX6_letterAt wsX6_letterAt RM_X6_letterAt (dC, dI) (TY cI cJ cZ cO) [.ref (ap 0), .int x1] (W_P cI cJ cZ cO ap pd) (fun r (_ : Unit) => r = o) (fun _ => (W_P cI cJ cZ cO ap pd)) := by
  refine MetI.ofV (cc := cX6_letterAt) (maxL := 2) (ret := (some .int)) (own := RX6) (lv0 := [(0, .ref (ap 0)), (1, .int x1)]) (by decide) rfl rfl (Nat.le_of_ble_eq_true rfl) rfl ?_
  intro p e s m below meth c A C0 _
  unfold f_X6_letterAt at hf
  refine V_aload_n C0 dX6_letterAt_0 0 rfl rfl ?_
  refine V_get C0 fl_X6_letterAt_9 0 rfl rfl dX6_letterAt_1 rfl ?_
  refine V_iload_n C0 dX6_letterAt_4 1 rfl rfl ?_
  obtain ⟨hi5, hf⟩ := ck_inv hf
  refine V_iald C0 1 0 rfl rfl hi5 dX6_letterAt_5 rfl ?_
  refine V_bipush (v := 97) C0 dX6_letterAt_6 (by decide) rfl ?_
  refine V_isub C0 dX6_letterAt_8 rfl ?_
  obtain rfl := some_inv hf
  exact V_iret C0 () rfl rfl dX6_letterAt_9
abbrev RM_X6_firstNoLetter : Room := { frames := 1, cells := 0, slots := 0, locals := 21 }
theorem in_X6_firstNoLetter_X6 : ∀ w ∈ u_ws RX6 TX6 2, w ∈ wsX6_firstNoLetter := by decide +kernel
theorem fl_X6_firstNoLetter_15 : FL RX6 wsX6_firstNoLetter 6 15 0 RX6 TX6 2 := ⟨in_X6_firstNoLetter_X6, rfl, by decide, by decide +kernel, rfl⟩
set_option maxRecDepth 100000 in
set_option maxHeartbeats 4000000 in
theorem c_X6_firstNoLetter (l : Launch) (dC : Nat → ClassId) (dI : Nat → Nat → Nat) (cI cJ cZ cO : ClassId) (ap : Nat → Nat) (N : Nat) (pd : PV) (o : Int32) (hf : f_X6_firstNoLetter N pd = some o) : MetI l yX6_firstNoLetter wsX6_firstNoLetter RM_X6_firstNoLetter (dC, dI) (TY cI cJ cZ cO) [.ref (ap 0)] (W_P cI cJ cZ cO ap pd) (fun r (_ : Unit) => r = o) (fun _ => (W_P cI cJ cZ cO ap pd)) := by
  refine MetI.ofV (cc := cX6_firstNoLetter) (maxL := 2) (ret := (some .int)) (own := RX6) (lv0 := [(0, .ref (ap 0))]) (by decide) rfl rfl (Nat.le_of_ble_eq_true rfl) rfl ?_
  intro p e s m below meth c A C0 _
  unfold f_X6_firstNoLetter at hf
  refine V_iconst (v := 0) C0 dX6_firstNoLetter_0 (by decide) rfl ?_
  refine V_istore_n (lv' := [(1, .int 0), (0, .ref (ap 0))]) C0 dX6_firstNoLetter_1 rfl (by decide) rfl rfl ?_
  have hL2 : ∀ (K : Int32 → Option (Int32)), (∀ (x1 : Int32), K x1 = some o → V p l e RM_X6_firstNoLetter s m ([.ref (ap 0)] : List Value).toArray below meth c 2 (dC, dI) A (MQ below (va_Qi (fun r (_ : Unit) => r = o) (PostW (dC, dI) (TY cI cJ cZ cO) A (fun _ => (W_P cI cJ cZ cO ap pd))) A) ([.ref (ap 0)] : List Value).toArray s 0 0 A) 0 0 (W_P cI cJ cZ cO ap pd) 34 [(1, .int x1)] []) → ∀ (n : Nat) (x1 : Int32), f_X6_firstNoLetter_L2 N pd  K n x1 = some o → V p l e RM_X6_firstNoLetter s m ([.ref (ap 0)] : List Value).toArray below meth c 2 (dC, dI) A (MQ below (va_Qi (fun r (_ : Unit) => r = o) (PostW (dC, dI) (TY cI cJ cZ cO) A (fun _ => (W_P cI cJ cZ cO ap pd))) A) ([.ref (ap 0)] : List Value).toArray s 0 0 A) 0 0 (W_P cI cJ cZ cO ap pd) 2 [(0, .ref (ap 0)), (1, .int x1)] [] := by
    intro  K hK n
    induction n with
    | zero => intro x1 hf; cases hf
    | succ n hREC =>
      intro x1 hf
      rw [f_X6_firstNoLetter_L2] at hf
      refine V_iload_n C0 dX6_firstNoLetter_2 1 rfl rfl ?_
      refine V_aload_n C0 dX6_firstNoLetter_3 0 rfl rfl ?_
      refine V_get C0 fl_X6_firstNoLetter_15 0 rfl rfl dX6_firstNoLetter_4 rfl ?_
      refine V_icmp_ge (tgt := 34) C0 dX6_firstNoLetter_7 (by decide) rfl (fun c7 => ?_) (fun c7 => ?_)
      · have hf := ite_t c7 hf
        exact V.sub [1] rfl (hK x1 hf)
      · have hf := ite_f c7 hf
        refine V_aload_n C0 dX6_firstNoLetter_10 0 rfl rfl ?_
        refine V_iload_n C0 dX6_firstNoLetter_11 1 rfl rfl ?_
        obtain ⟨r_12, hc_12, hf⟩ := bind_inv hf
        refine V_cVI (ws' := (W_P cI cJ cZ cO ap pd)) (As := [.int x1]) (b := ap 0) (st := []) C0 (c_X6_letterAt l dC dI cI cJ cZ cO ap N pd x1 r_12 hc_12) rfl 1 gX6_firstNoLetter_X6_letterAt (by decide +kernel) ⟨Nat.le_of_ble_eq_true rfl, Nat.le_of_ble_eq_true rfl⟩ rfl 0 6 rfl rfl _ _ _ (Cut.all _ _ 2 rfl (fun _ => rfl)) rfl (Nat.le_of_ble_eq_true rfl) dX6_firstNoLetter_12 rfl ⟨Nat.zero_le _, Nat.zero_le _⟩ ?_
        refine V_if_lt (tgt := 34) C0 dX6_firstNoLetter_15 (by decide) rfl (fun c15 => ?_) (fun c15 => ?_)
        · have hf := ite_t c15 hf
          exact V.sub [1] rfl (hK x1 hf)
        · have hf := ite_f c15 hf
          refine V_aload_n C0 dX6_firstNoLetter_18 0 rfl rfl ?_
          refine V_iload_n C0 dX6_firstNoLetter_19 1 rfl rfl ?_
          obtain ⟨r_20, hc_20, hf⟩ := bind_inv hf
          refine V_cVI (ws' := (W_P cI cJ cZ cO ap pd)) (As := [.int x1]) (b := ap 0) (st := []) C0 (c_X6_letterAt l dC dI cI cJ cZ cO ap N pd x1 r_20 hc_20) rfl 1 gX6_firstNoLetter_X6_letterAt (by decide +kernel) ⟨Nat.le_of_ble_eq_true rfl, Nat.le_of_ble_eq_true rfl⟩ rfl 0 6 rfl rfl _ _ _ (Cut.all _ _ 2 rfl (fun _ => rfl)) rfl (Nat.le_of_ble_eq_true rfl) dX6_firstNoLetter_20 rfl ⟨Nat.zero_le _, Nat.zero_le _⟩ ?_
          refine V_bipush (v := 6) C0 dX6_firstNoLetter_23 (by decide) rfl ?_
          refine V_icmp_ge (tgt := 34) C0 dX6_firstNoLetter_25 (by decide) rfl (fun c25 => ?_) (fun c25 => ?_)
          · have hf := ite_t c25 hf
            exact V.sub [1] rfl (hK x1 hf)
          · have hf := ite_f c25 hf
            refine V_iinc (k := 1) (v := x1 + 1) (lv' := [(1, .int (x1 + 1)), (0, .ref (ap 0))]) C0 dX6_firstNoLetter_28 rfl rfl (by decide) rfl rfl ?_
            refine V_goto (tgt := 2) C0 dX6_firstNoLetter_31 (by decide) ?_
            exact V.sub [1, 0] rfl (hREC (x1 + 1) hf)
  refine V.sub [1, 0] rfl (hL2  _ ?_ N 0 hf)
  intro x1_2 hf
  refine V_iload_n C0 dX6_firstNoLetter_34 0 rfl rfl ?_
  obtain rfl := some_inv hf
  exact V_iret C0 () rfl rfl dX6_firstNoLetter_35
abbrev RM_X6_holdsLetters : Room := { frames := 2, cells := 0, slots := 0, locals := 42 }
theorem in_X6_holdsLetters_X6 : ∀ w ∈ u_ws RX6 TX6 2, w ∈ wsX6_holdsLetters := by decide +kernel
theorem fl_X6_holdsLetters_15 : FL RX6 wsX6_holdsLetters 6 15 0 RX6 TX6 2 := ⟨in_X6_holdsLetters_X6, rfl, by decide, by decide +kernel, rfl⟩
set_option maxRecDepth 100000 in
set_option maxHeartbeats 4000000 in
theorem c_X6_holdsLetters (l : Launch) (dC : Nat → ClassId) (dI : Nat → Nat → Nat) (cI cJ cZ cO : ClassId) (ap : Nat → Nat) (N : Nat) (pd : PV) (x1 : Int32) (o : Int32) (hf : f_X6_holdsLetters N pd x1 = some o) : MetI l yX6_holdsLetters wsX6_holdsLetters RM_X6_holdsLetters (dC, dI) (TY cI cJ cZ cO) [.ref (ap 0), .int x1] (W_P cI cJ cZ cO ap pd) (fun r (_ : Unit) => r = o) (fun _ => (W_P cI cJ cZ cO ap pd)) := by
  refine MetI.ofV (cc := cX6_holdsLetters) (maxL := 2) (ret := (some .boolean)) (own := RX6) (lv0 := [(0, .ref (ap 0)), (1, .int x1)]) (by decide) rfl rfl (Nat.le_of_ble_eq_true rfl) rfl ?_
  intro p e s m below meth c A C0 _
  unfold f_X6_holdsLetters at hf
  refine V_aload_n C0 dX6_holdsLetters_0 0 rfl rfl ?_
  refine V_get C0 fl_X6_holdsLetters_15 0 rfl rfl dX6_holdsLetters_1 rfl ?_
  refine V_iconst (v := 1) C0 dX6_holdsLetters_4 (by decide) rfl ?_
  refine V_icmp_lt (tgt := 31) C0 dX6_holdsLetters_5 (by decide) rfl (fun c5 => ?_) (fun c5 => ?_)
  · have hf := ite_t c5 hf
    refine V_iconst (v := 0) C0 dX6_holdsLetters_31 (by decide) rfl ?_
    obtain rfl := some_inv hf
    exact V_zret C0 rfl () rfl rfl dX6_holdsLetters_32
  · have hf := ite_f c5 hf
    refine V_aload_n C0 dX6_holdsLetters_8 0 rfl rfl ?_
    refine V_get C0 fl_X6_holdsLetters_15 0 rfl rfl dX6_holdsLetters_9 rfl ?_
    refine V_iload_n C0 dX6_holdsLetters_12 1 rfl rfl ?_
    refine V_icmp_gt (tgt := 31) C0 dX6_holdsLetters_13 (by decide) rfl (fun c13 => ?_) (fun c13 => ?_)
    · have hf := ite_t c13 hf
      refine V_iconst (v := 0) C0 dX6_holdsLetters_31 (by decide) rfl ?_
      obtain rfl := some_inv hf
      exact V_zret C0 rfl () rfl rfl dX6_holdsLetters_32
    · have hf := ite_f c13 hf
      refine V_aload_n C0 dX6_holdsLetters_16 0 rfl rfl ?_
      obtain ⟨r_17, hc_17, hf⟩ := bind_inv hf
      refine V_cVI (ws' := (W_P cI cJ cZ cO ap pd)) (As := []) (b := ap 0) (st := []) C0 (c_X6_firstNoLetter l dC dI cI cJ cZ cO ap N pd  r_17 hc_17) rfl 0 gX6_holdsLetters_X6_firstNoLetter (by decide +kernel) ⟨Nat.le_of_ble_eq_true rfl, Nat.le_of_ble_eq_true rfl⟩ rfl 0 6 rfl rfl _ _ _ (Cut.all _ _ 2 rfl (fun _ => rfl)) rfl (Nat.le_of_ble_eq_true rfl) dX6_holdsLetters_17 rfl ⟨Nat.zero_le _, Nat.zero_le _⟩ ?_
      refine V_aload_n C0 dX6_holdsLetters_20 0 rfl rfl ?_
      refine V_get C0 fl_X6_holdsLetters_15 0 rfl rfl dX6_holdsLetters_21 rfl ?_
      refine V_icmp_ne (tgt := 31) C0 dX6_holdsLetters_24 (by decide) rfl (fun c24 => ?_) (fun c24 => ?_)
      · have hf := ite_f c24 hf
        refine V_iconst (v := 0) C0 dX6_holdsLetters_31 (by decide) rfl ?_
        obtain rfl := some_inv hf
        exact V_zret C0 rfl () rfl rfl dX6_holdsLetters_32
      · have hf := ite_t c24 hf
        refine V_iconst (v := 1) C0 dX6_holdsLetters_27 (by decide) rfl ?_
        refine V_goto (tgt := 32) C0 dX6_holdsLetters_28 (by decide) ?_
        obtain rfl := some_inv hf
        exact V_zret C0 rfl () rfl rfl dX6_holdsLetters_32
abbrev RM_X6_text : Room := { frames := 1, cells := 0, slots := 0, locals := 21 }
theorem in_X6_text_X6 : ∀ w ∈ u_ws RX6 TX6 2, w ∈ wsX6_text := by decide +kernel
theorem fl_X6_text_15 : FL RX6 wsX6_text 6 15 0 RX6 TX6 2 := ⟨in_X6_text_X6, rfl, by decide, by decide +kernel, rfl⟩
set_option maxRecDepth 100000 in
set_option maxHeartbeats 4000000 in
theorem c_X6_text (l : Launch) (dC : Nat → ClassId) (dI : Nat → Nat → Nat) (cI cJ cZ cO : ClassId) (ap : Nat → Nat) (N : Nat) (pd : PV) (o : Int32) (hf : f_X6_text N pd = some o) : MetI l yX6_text wsX6_text RM_X6_text (dC, dI) (TY cI cJ cZ cO) [.ref (ap 0)] (W_P cI cJ cZ cO ap pd) (fun r (_ : Unit) => r = o) (fun _ => (W_P cI cJ cZ cO ap pd)) := by
  refine MetI.ofV (cc := cX6_text) (maxL := 3) (ret := (some .int)) (own := RX6) (lv0 := [(0, .ref (ap 0))]) (by decide) rfl rfl (Nat.le_of_ble_eq_true rfl) rfl ?_
  intro p e s m below meth c A C0 _
  unfold f_X6_text at hf
  refine V_iconst (v := 0) C0 dX6_text_0 (by decide) rfl ?_
  refine V_istore_n (lv' := [(1, .int 0), (0, .ref (ap 0))]) C0 dX6_text_1 rfl (by decide) rfl rfl ?_
  refine V_iconst (v := 0) C0 dX6_text_2 (by decide) rfl ?_
  refine V_istore_n (lv' := [(2, .int 0), (1, .int 0), (0, .ref (ap 0))]) C0 dX6_text_3 rfl (by decide) rfl rfl ?_
  have hL4 : ∀ (K : Int32 → Option (Int32)), (∀ (x1 : Int32), K x1 = some o → V p l e RM_X6_text s m ([.ref (ap 0)] : List Value).toArray below meth c 3 (dC, dI) A (MQ below (va_Qi (fun r (_ : Unit) => r = o) (PostW (dC, dI) (TY cI cJ cZ cO) A (fun _ => (W_P cI cJ cZ cO ap pd))) A) ([.ref (ap 0)] : List Value).toArray s 0 0 A) 0 0 (W_P cI cJ cZ cO ap pd) 30 [(1, .int x1)] []) → ∀ (n : Nat) (x1 : Int32) (x2 : Int32), f_X6_text_L4 N pd  K n x1 x2 = some o → V p l e RM_X6_text s m ([.ref (ap 0)] : List Value).toArray below meth c 3 (dC, dI) A (MQ below (va_Qi (fun r (_ : Unit) => r = o) (PostW (dC, dI) (TY cI cJ cZ cO) A (fun _ => (W_P cI cJ cZ cO ap pd))) A) ([.ref (ap 0)] : List Value).toArray s 0 0 A) 0 0 (W_P cI cJ cZ cO ap pd) 4 [(0, .ref (ap 0)), (1, .int x1), (2, .int x2)] [] := by
    intro  K hK n
    induction n with
    | zero => intro x1 x2 hf; cases hf
    | succ n hREC =>
      intro x1 x2 hf
      rw [f_X6_text_L4] at hf
      refine V_iload_n C0 dX6_text_4 2 rfl rfl ?_
      refine V_aload_n C0 dX6_text_5 0 rfl rfl ?_
      refine V_get C0 fl_X6_text_15 0 rfl rfl dX6_text_6 rfl ?_
      refine V_icmp_ge (tgt := 30) C0 dX6_text_9 (by decide) rfl (fun c9 => ?_) (fun c9 => ?_)
      · have hf := ite_t c9 hf
        exact V.sub [1] rfl (hK x1 hf)
      · have hf := ite_f c9 hf
        refine V_iload_n C0 dX6_text_12 1 rfl rfl ?_
        refine V_iconst (v := 3) C0 dX6_text_13 (by decide) rfl ?_
        refine V_ishl C0 dX6_text_14 rfl ?_
        refine V_aload_n C0 dX6_text_15 0 rfl rfl ?_
        refine V_iload_n C0 dX6_text_16 2 rfl rfl ?_
        obtain ⟨r_17, hc_17, hf⟩ := bind_inv hf
        refine V_cVI (ws' := (W_P cI cJ cZ cO ap pd)) (As := [.int x2]) (b := ap 0) (st := [.int (x1 <<< (3 &&& 31))]) C0 (c_X6_letterAt l dC dI cI cJ cZ cO ap N pd x2 r_17 hc_17) rfl 1 gX6_text_X6_letterAt (by decide +kernel) ⟨Nat.le_of_ble_eq_true rfl, Nat.le_of_ble_eq_true rfl⟩ rfl 0 6 rfl rfl _ _ _ (Cut.all _ _ 2 rfl (fun _ => rfl)) rfl (Nat.le_of_ble_eq_true rfl) dX6_text_17 rfl ⟨Nat.zero_le _, Nat.zero_le _⟩ ?_
        refine V_iconst (v := 1) C0 dX6_text_20 (by decide) rfl ?_
        refine V_iadd C0 dX6_text_21 rfl ?_
        refine V_ior C0 dX6_text_22 rfl ?_
        refine V_topi (fun x1_1 ex1_1 => ?_)
        have hf := bd_inv ex1_1 hf
        refine V_istore_n (lv' := [(1, .int x1_1), (0, .ref (ap 0)), (2, .int x2)]) C0 dX6_text_23 rfl (by decide) rfl rfl ?_
        refine V_iinc (k := 2) (v := x2 + 1) (lv' := [(2, .int (x2 + 1)), (1, .int x1_1), (0, .ref (ap 0))]) C0 dX6_text_24 rfl rfl (by decide) rfl rfl ?_
        refine V_goto (tgt := 4) C0 dX6_text_27 (by decide) ?_
        exact V.sub [2, 1, 0] rfl (hREC x1_1 (x2 + 1) hf)
  refine V.sub [2, 1, 0] rfl (hL4  _ ?_ N 0 0 hf)
  intro x1_4 hf
  refine V_iload_n C0 dX6_text_30 0 rfl rfl ?_
  obtain rfl := some_inv hf
  exact V_iret C0 () rfl rfl dX6_text_31
abbrev RM_X2_copyFrom : Room := { frames := 1, cells := 0, slots := 0, locals := 60 }
theorem in_X2_copyFrom_X2 : ∀ w ∈ u_ws RX2 TX2 8, w ∈ wsX2_copyFrom := by decide +kernel
theorem fl_X2_copyFrom_9 : FL RX2 wsX2_copyFrom 2 9 1 RX2 TX2 8 := ⟨in_X2_copyFrom_X2, rfl, by decide, by decide +kernel, rfl⟩
theorem fl_X2_copyFrom_15 : FL RX2 wsX2_copyFrom 2 15 2 RX2 TX2 8 := ⟨in_X2_copyFrom_X2, rfl, by decide, by decide +kernel, rfl⟩
theorem fl_X2_copyFrom_18 : FL RX2 wsX2_copyFrom 2 18 3 RX2 TX2 8 := ⟨in_X2_copyFrom_X2, rfl, by decide, by decide +kernel, rfl⟩
theorem fl_X2_copyFrom_21 : FL RX2 wsX2_copyFrom 2 21 5 RX2 TX2 8 := ⟨in_X2_copyFrom_X2, rfl, by decide, by decide +kernel, rfl⟩
theorem fl_X2_copyFrom_24 : FL RX2 wsX2_copyFrom 2 24 6 RX2 TX2 8 := ⟨in_X2_copyFrom_X2, rfl, by decide, by decide +kernel, rfl⟩
theorem fl_X2_copyFrom_27 : FL RX2 wsX2_copyFrom 2 27 7 RX2 TX2 8 := ⟨in_X2_copyFrom_X2, rfl, by decide, by decide +kernel, rfl⟩
theorem fl_X2_copyFrom_30 : FL RX2 wsX2_copyFrom 2 30 0 RX2 TX2 8 := ⟨in_X2_copyFrom_X2, rfl, by decide, by decide +kernel, rfl⟩
theorem fl_X2_copyFrom_40 : FL RX2 wsX2_copyFrom 2 40 4 RX2 TX2 8 := ⟨in_X2_copyFrom_X2, rfl, by decide, by decide +kernel, rfl⟩
set_option maxRecDepth 100000 in
set_option maxHeartbeats 4000000 in
theorem c_X2_copyFrom (l : Launch) (dC : Nat → ClassId) (dI : Nat → Nat → Nat) (cI cJ cZ cO : ClassId) (ac_ : Nat → Nat) (aoc : Nat → Nat) (N : Nat) (ct : CV) (oc : CV) (o : CV) (hf : f_X2_copyFrom N ct oc = some o) : MetV l yX2_copyFrom wsX2_copyFrom RM_X2_copyFrom (dC, dI) (TY cI cJ cZ cO) [.ref (ac_ 0), .ref (aoc 0)] (W_C cI cJ cZ cO ac_ ct ++ (W_C cI cJ cZ cO aoc oc)) (fun _ : Unit => True) (fun _ => (W_C cI cJ cZ cO ac_ o ++ (W_C cI cJ cZ cO aoc oc))) := by
  refine MetV.ofV (cc := cX2_copyFrom) (maxL := 2) (ret := none) (own := RX2) (lv0 := [(0, .ref (ac_ 0)), (1, .ref (aoc 0))]) (by decide) rfl rfl (Nat.le_of_ble_eq_true rfl) rfl ?_
  intro p e s m below meth c A C0 _
  unfold f_X2_copyFrom at hf
  refine V_aload_n C0 dX2_copyFrom_0 0 rfl rfl ?_
  refine V_aload_n C0 dX2_copyFrom_1 1 rfl rfl ?_
  refine V_get C0 fl_X2_copyFrom_30 7 rfl rfl dX2_copyFrom_2 rfl ?_
  refine V_put (ws' := (W_C cI cJ cZ cO ac_ ((oc.1, ct.2.1, ct.2.2.1, ct.2.2.2.1, ct.2.2.2.2.1, ct.2.2.2.2.2.1, ct.2.2.2.2.2.2.1, ct.2.2.2.2.2.2.2)) ++ (W_C cI cJ cZ cO aoc oc))) C0 fl_X2_copyFrom_30 tyX2_ok nmX2 rfl 0 rfl rfl rfl (Nat.le_of_ble_eq_true rfl) dX2_copyFrom_5 rfl rfl ?_
  refine V_aload_n C0 dX2_copyFrom_8 1 rfl rfl ?_
  refine V_get C0 fl_X2_copyFrom_9 7 rfl rfl dX2_copyFrom_9 rfl ?_
  refine V_iconst (v := 0) C0 dX2_copyFrom_12 (by decide) rfl ?_
  refine V_aload_n C0 dX2_copyFrom_13 0 rfl rfl ?_
  refine V_get C0 fl_X2_copyFrom_9 0 rfl rfl dX2_copyFrom_14 rfl ?_
  refine V_iconst (v := 0) C0 dX2_copyFrom_17 (by decide) rfl ?_
  refine V_bipush (v := 16) C0 dX2_copyFrom_18 (by decide) rfl ?_
  obtain ⟨hk20, hf⟩ := ckc_inv hf
  refine V_copy (ws' := (W_C cI cJ cZ cO ac_ ((oc.1, va_cpy oc.2.1 ct.2.1 ((0 : Int32).toNatClampNeg) ((0 : Int32).toNatClampNeg) ((16 : Int32).toNatClampNeg), ct.2.2.1, ct.2.2.2.1, ct.2.2.2.2.1, ct.2.2.2.2.2.1, ct.2.2.2.2.2.2.1, ct.2.2.2.2.2.2.2)) ++ (W_C cI cJ cZ cO aoc oc))) C0 (index := 34) (by decide +kernel) (by decide +kernel) (by decide +kernel) (by decide +kernel) 8 1 0 rfl rfl rfl hk20 (Nat.le_of_ble_eq_true rfl) (Nat.le_of_ble_eq_true rfl) dX2_copyFrom_20 rfl rfl ?_
  refine V_aload_n C0 dX2_copyFrom_23 1 rfl rfl ?_
  refine V_get C0 fl_X2_copyFrom_15 7 rfl rfl dX2_copyFrom_24 rfl ?_
  refine V_iconst (v := 0) C0 dX2_copyFrom_27 (by decide) rfl ?_
  refine V_aload_n C0 dX2_copyFrom_28 0 rfl rfl ?_
  refine V_get C0 fl_X2_copyFrom_15 0 rfl rfl dX2_copyFrom_29 rfl ?_
  refine V_iconst (v := 0) C0 dX2_copyFrom_32 (by decide) rfl ?_
  refine V_bipush (v := 16) C0 dX2_copyFrom_33 (by decide) rfl ?_
  obtain ⟨hk35, hf⟩ := ckc_inv hf
  refine V_copy (ws' := (W_C cI cJ cZ cO ac_ ((oc.1, va_cpy oc.2.1 ct.2.1 ((0 : Int32).toNatClampNeg) ((0 : Int32).toNatClampNeg) ((16 : Int32).toNatClampNeg), va_cpy oc.2.2.1 ct.2.2.1 ((0 : Int32).toNatClampNeg) ((0 : Int32).toNatClampNeg) ((16 : Int32).toNatClampNeg), ct.2.2.2.1, ct.2.2.2.2.1, ct.2.2.2.2.2.1, ct.2.2.2.2.2.2.1, ct.2.2.2.2.2.2.2)) ++ (W_C cI cJ cZ cO aoc oc))) C0 (index := 34) (by decide +kernel) (by decide +kernel) (by decide +kernel) (by decide +kernel) 9 2 0 rfl rfl rfl hk35 (Nat.le_of_ble_eq_true rfl) (Nat.le_of_ble_eq_true rfl) dX2_copyFrom_35 rfl rfl ?_
  refine V_aload_n C0 dX2_copyFrom_38 1 rfl rfl ?_
  refine V_get C0 fl_X2_copyFrom_18 7 rfl rfl dX2_copyFrom_39 rfl ?_
  refine V_iconst (v := 0) C0 dX2_copyFrom_42 (by decide) rfl ?_
  refine V_aload_n C0 dX2_copyFrom_43 0 rfl rfl ?_
  refine V_get C0 fl_X2_copyFrom_18 0 rfl rfl dX2_copyFrom_44 rfl ?_
  refine V_iconst (v := 0) C0 dX2_copyFrom_47 (by decide) rfl ?_
  refine V_bipush (v := 16) C0 dX2_copyFrom_48 (by decide) rfl ?_
  obtain ⟨hk50, hf⟩ := ckc_inv hf
  refine V_copy (ws' := (W_C cI cJ cZ cO ac_ ((oc.1, va_cpy oc.2.1 ct.2.1 ((0 : Int32).toNatClampNeg) ((0 : Int32).toNatClampNeg) ((16 : Int32).toNatClampNeg), va_cpy oc.2.2.1 ct.2.2.1 ((0 : Int32).toNatClampNeg) ((0 : Int32).toNatClampNeg) ((16 : Int32).toNatClampNeg), va_cpy oc.2.2.2.1 ct.2.2.2.1 ((0 : Int32).toNatClampNeg) ((0 : Int32).toNatClampNeg) ((16 : Int32).toNatClampNeg), ct.2.2.2.2.1, ct.2.2.2.2.2.1, ct.2.2.2.2.2.2.1, ct.2.2.2.2.2.2.2)) ++ (W_C cI cJ cZ cO aoc oc))) C0 (index := 34) (by decide +kernel) (by decide +kernel) (by decide +kernel) (by decide +kernel) 10 3 0 rfl rfl rfl hk50 (Nat.le_of_ble_eq_true rfl) (Nat.le_of_ble_eq_true rfl) dX2_copyFrom_50 rfl rfl ?_
  refine V_aload_n C0 dX2_copyFrom_53 0 rfl rfl ?_
  refine V_aload_n C0 dX2_copyFrom_54 1 rfl rfl ?_
  refine V_get C0 fl_X2_copyFrom_40 7 rfl rfl dX2_copyFrom_55 rfl ?_
  refine V_put (ws' := (W_C cI cJ cZ cO ac_ ((oc.1, va_cpy oc.2.1 ct.2.1 ((0 : Int32).toNatClampNeg) ((0 : Int32).toNatClampNeg) ((16 : Int32).toNatClampNeg), va_cpy oc.2.2.1 ct.2.2.1 ((0 : Int32).toNatClampNeg) ((0 : Int32).toNatClampNeg) ((16 : Int32).toNatClampNeg), va_cpy oc.2.2.2.1 ct.2.2.2.1 ((0 : Int32).toNatClampNeg) ((0 : Int32).toNatClampNeg) ((16 : Int32).toNatClampNeg), oc.2.2.2.2.1, ct.2.2.2.2.2.1, ct.2.2.2.2.2.2.1, ct.2.2.2.2.2.2.2)) ++ (W_C cI cJ cZ cO aoc oc))) C0 fl_X2_copyFrom_40 tyX2_ok nmX2 rfl 0 rfl rfl rfl (Nat.le_of_ble_eq_true rfl) dX2_copyFrom_58 rfl rfl ?_
  refine V_aload_n C0 dX2_copyFrom_61 1 rfl rfl ?_
  refine V_get C0 fl_X2_copyFrom_21 7 rfl rfl dX2_copyFrom_62 rfl ?_
  refine V_iconst (v := 0) C0 dX2_copyFrom_65 (by decide) rfl ?_
  refine V_aload_n C0 dX2_copyFrom_66 0 rfl rfl ?_
  refine V_get C0 fl_X2_copyFrom_21 0 rfl rfl dX2_copyFrom_67 rfl ?_
  refine V_iconst (v := 0) C0 dX2_copyFrom_70 (by decide) rfl ?_
  refine V_bipush (v := 8) C0 dX2_copyFrom_71 (by decide) rfl ?_
  obtain ⟨hk73, hf⟩ := ckc_inv hf
  refine V_copy (ws' := (W_C cI cJ cZ cO ac_ ((oc.1, va_cpy oc.2.1 ct.2.1 ((0 : Int32).toNatClampNeg) ((0 : Int32).toNatClampNeg) ((16 : Int32).toNatClampNeg), va_cpy oc.2.2.1 ct.2.2.1 ((0 : Int32).toNatClampNeg) ((0 : Int32).toNatClampNeg) ((16 : Int32).toNatClampNeg), va_cpy oc.2.2.2.1 ct.2.2.2.1 ((0 : Int32).toNatClampNeg) ((0 : Int32).toNatClampNeg) ((16 : Int32).toNatClampNeg), oc.2.2.2.2.1, va_cpy oc.2.2.2.2.2.1 ct.2.2.2.2.2.1 ((0 : Int32).toNatClampNeg) ((0 : Int32).toNatClampNeg) ((8 : Int32).toNatClampNeg), ct.2.2.2.2.2.2.1, ct.2.2.2.2.2.2.2)) ++ (W_C cI cJ cZ cO aoc oc))) C0 (index := 34) (by decide +kernel) (by decide +kernel) (by decide +kernel) (by decide +kernel) 11 4 0 rfl rfl rfl hk73 (Nat.le_of_ble_eq_true rfl) (Nat.le_of_ble_eq_true rfl) dX2_copyFrom_73 rfl rfl ?_
  refine V_aload_n C0 dX2_copyFrom_76 1 rfl rfl ?_
  refine V_get C0 fl_X2_copyFrom_24 7 rfl rfl dX2_copyFrom_77 rfl ?_
  refine V_iconst (v := 0) C0 dX2_copyFrom_80 (by decide) rfl ?_
  refine V_aload_n C0 dX2_copyFrom_81 0 rfl rfl ?_
  refine V_get C0 fl_X2_copyFrom_24 0 rfl rfl dX2_copyFrom_82 rfl ?_
  refine V_iconst (v := 0) C0 dX2_copyFrom_85 (by decide) rfl ?_
  refine V_bipush (v := 8) C0 dX2_copyFrom_86 (by decide) rfl ?_
  obtain ⟨hk88, hf⟩ := ckc_inv hf
  refine V_copy (ws' := (W_C cI cJ cZ cO ac_ ((oc.1, va_cpy oc.2.1 ct.2.1 ((0 : Int32).toNatClampNeg) ((0 : Int32).toNatClampNeg) ((16 : Int32).toNatClampNeg), va_cpy oc.2.2.1 ct.2.2.1 ((0 : Int32).toNatClampNeg) ((0 : Int32).toNatClampNeg) ((16 : Int32).toNatClampNeg), va_cpy oc.2.2.2.1 ct.2.2.2.1 ((0 : Int32).toNatClampNeg) ((0 : Int32).toNatClampNeg) ((16 : Int32).toNatClampNeg), oc.2.2.2.2.1, va_cpy oc.2.2.2.2.2.1 ct.2.2.2.2.2.1 ((0 : Int32).toNatClampNeg) ((0 : Int32).toNatClampNeg) ((8 : Int32).toNatClampNeg), va_cpy oc.2.2.2.2.2.2.1 ct.2.2.2.2.2.2.1 ((0 : Int32).toNatClampNeg) ((0 : Int32).toNatClampNeg) ((8 : Int32).toNatClampNeg), ct.2.2.2.2.2.2.2)) ++ (W_C cI cJ cZ cO aoc oc))) C0 (index := 34) (by decide +kernel) (by decide +kernel) (by decide +kernel) (by decide +kernel) 12 5 0 rfl rfl rfl hk88 (Nat.le_of_ble_eq_true rfl) (Nat.le_of_ble_eq_true rfl) dX2_copyFrom_88 rfl rfl ?_
  refine V_aload_n C0 dX2_copyFrom_91 1 rfl rfl ?_
  refine V_get C0 fl_X2_copyFrom_27 7 rfl rfl dX2_copyFrom_92 rfl ?_
  refine V_iconst (v := 0) C0 dX2_copyFrom_95 (by decide) rfl ?_
  refine V_aload_n C0 dX2_copyFrom_96 0 rfl rfl ?_
  refine V_get C0 fl_X2_copyFrom_27 0 rfl rfl dX2_copyFrom_97 rfl ?_
  refine V_iconst (v := 0) C0 dX2_copyFrom_100 (by decide) rfl ?_
  refine V_bipush (v := 96) C0 dX2_copyFrom_101 (by decide) rfl ?_
  obtain ⟨hk103, hf⟩ := ckc_inv hf
  refine V_copy (ws' := (W_C cI cJ cZ cO ac_ ((oc.1, va_cpy oc.2.1 ct.2.1 ((0 : Int32).toNatClampNeg) ((0 : Int32).toNatClampNeg) ((16 : Int32).toNatClampNeg), va_cpy oc.2.2.1 ct.2.2.1 ((0 : Int32).toNatClampNeg) ((0 : Int32).toNatClampNeg) ((16 : Int32).toNatClampNeg), va_cpy oc.2.2.2.1 ct.2.2.2.1 ((0 : Int32).toNatClampNeg) ((0 : Int32).toNatClampNeg) ((16 : Int32).toNatClampNeg), oc.2.2.2.2.1, va_cpy oc.2.2.2.2.2.1 ct.2.2.2.2.2.1 ((0 : Int32).toNatClampNeg) ((0 : Int32).toNatClampNeg) ((8 : Int32).toNatClampNeg), va_cpy oc.2.2.2.2.2.2.1 ct.2.2.2.2.2.2.1 ((0 : Int32).toNatClampNeg) ((0 : Int32).toNatClampNeg) ((8 : Int32).toNatClampNeg), va_cpy oc.2.2.2.2.2.2.2 ct.2.2.2.2.2.2.2 ((0 : Int32).toNatClampNeg) ((0 : Int32).toNatClampNeg) ((96 : Int32).toNatClampNeg))) ++ (W_C cI cJ cZ cO aoc oc))) C0 (index := 34) (by decide +kernel) (by decide +kernel) (by decide +kernel) (by decide +kernel) 13 6 0 rfl rfl rfl hk103 (Nat.le_of_ble_eq_true rfl) (Nat.le_of_ble_eq_true rfl) dX2_copyFrom_103 rfl rfl ?_
  obtain rfl := some_inv hf
  exact V_vret C0 () trivial rfl dX2_copyFrom_106
abbrev RM_X2_pieceWith : Room := { frames := 0, cells := 0, slots := 0, locals := 0 }
theorem in_X2_pieceWith_X2 : ∀ w ∈ u_ws RX2 TX2 8, w ∈ wsX2_pieceWith := by decide +kernel
theorem fl_X2_pieceWith_9 : FL RX2 wsX2_pieceWith 2 9 1 RX2 TX2 8 := ⟨in_X2_pieceWith_X2, rfl, by decide, by decide +kernel, rfl⟩
theorem fl_X2_pieceWith_30 : FL RX2 wsX2_pieceWith 2 30 0 RX2 TX2 8 := ⟨in_X2_pieceWith_X2, rfl, by decide, by decide +kernel, rfl⟩
set_option maxRecDepth 100000 in
set_option maxHeartbeats 4000000 in
theorem c_X2_pieceWith (l : Launch) (dC : Nat → ClassId) (dI : Nat → Nat → Nat) (cI cJ cZ cO : ClassId) (ac_ : Nat → Nat) (N : Nat) (ct : CV) (x1 : Int32) (o : Int32) (hf : f_X2_pieceWith N ct x1 = some o) : MetI l yX2_pieceWith wsX2_pieceWith RM_X2_pieceWith (dC, dI) (TY cI cJ cZ cO) [.ref (ac_ 0), .int x1] (W_C cI cJ cZ cO ac_ ct) (fun r (_ : Unit) => r = o) (fun _ => (W_C cI cJ cZ cO ac_ ct)) := by
  refine MetI.ofV (cc := cX2_pieceWith) (maxL := 3) (ret := (some .int)) (own := RX2) (lv0 := [(0, .ref (ac_ 0)), (1, .int x1)]) (by decide) rfl rfl (Nat.le_of_ble_eq_true rfl) rfl ?_
  intro p e s m below meth c A C0 _
  unfold f_X2_pieceWith at hf
  refine V_iconst (v := 0) C0 dX2_pieceWith_0 (by decide) rfl ?_
  refine V_istore_n (lv' := [(2, .int 0), (0, .ref (ac_ 0)), (1, .int x1)]) C0 dX2_pieceWith_1 rfl (by decide) rfl rfl ?_
  have hL2 : ∀ (K : Unit → Option (Int32)), (∀ (u : Unit), K u = some o → V p l e RM_X2_pieceWith s m ([.ref (ac_ 0), .int x1] : List Value).toArray below meth c 3 (dC, dI) A (MQ below (va_Qi (fun r (_ : Unit) => r = o) (PostW (dC, dI) (TY cI cJ cZ cO) A (fun _ => (W_C cI cJ cZ cO ac_ ct))) A) ([.ref (ac_ 0), .int x1] : List Value).toArray s 0 0 A) 0 0 (W_C cI cJ cZ cO ac_ ct) 28 [] []) → ∀ (n : Nat) (x2 : Int32), f_X2_pieceWith_L2 N ct x1  K n x2 = some o → V p l e RM_X2_pieceWith s m ([.ref (ac_ 0), .int x1] : List Value).toArray below meth c 3 (dC, dI) A (MQ below (va_Qi (fun r (_ : Unit) => r = o) (PostW (dC, dI) (TY cI cJ cZ cO) A (fun _ => (W_C cI cJ cZ cO ac_ ct))) A) ([.ref (ac_ 0), .int x1] : List Value).toArray s 0 0 A) 0 0 (W_C cI cJ cZ cO ac_ ct) 2 [(0, .ref (ac_ 0)), (1, .int x1), (2, .int x2)] [] := by
    intro  K hK n
    induction n with
    | zero => intro x2 hf; cases hf
    | succ n hREC =>
      intro x2 hf
      rw [f_X2_pieceWith_L2] at hf
      refine V_iload_n C0 dX2_pieceWith_2 2 rfl rfl ?_
      refine V_aload_n C0 dX2_pieceWith_3 0 rfl rfl ?_
      refine V_get C0 fl_X2_pieceWith_30 0 rfl rfl dX2_pieceWith_4 rfl ?_
      refine V_icmp_ge (tgt := 28) C0 dX2_pieceWith_7 (by decide) rfl (fun c7 => ?_) (fun c7 => ?_)
      · have hf := ite_t c7 hf
        exact V.sub [] rfl (hK () hf)
      · have hf := ite_f c7 hf
        refine V_aload_n C0 dX2_pieceWith_10 0 rfl rfl ?_
        refine V_get C0 fl_X2_pieceWith_9 0 rfl rfl dX2_pieceWith_11 rfl ?_
        refine V_iload_n C0 dX2_pieceWith_14 2 rfl rfl ?_
        obtain ⟨hi15, hf⟩ := ck_inv hf
        refine V_iald C0 1 0 rfl rfl hi15 dX2_pieceWith_15 rfl ?_
        refine V_iload_n C0 dX2_pieceWith_16 1 rfl rfl ?_
        refine V_icmp_ne (tgt := 22) C0 dX2_pieceWith_17 (by decide) rfl (fun c17 => ?_) (fun c17 => ?_)
        · have hf := ite_f c17 hf
          refine V_iinc (k := 2) (v := x2 + 1) (lv' := [(2, .int (x2 + 1)), (0, .ref (ac_ 0)), (1, .int x1)]) C0 dX2_pieceWith_22 rfl rfl (by decide) rfl rfl ?_
          refine V_goto (tgt := 2) C0 dX2_pieceWith_25 (by decide) ?_
          exact V.sub [1, 2, 0] rfl (hREC (x2 + 1) hf)
        · have hf := ite_t c17 hf
          refine V_iload_n C0 dX2_pieceWith_20 2 rfl rfl ?_
          obtain rfl := some_inv hf
          exact V_iret C0 () rfl rfl dX2_pieceWith_21
  refine V.sub [1, 2, 0] rfl (hL2  _ ?_ N 0 hf)
  intro u hf
  refine V_iconst (v := (-1)) C0 dX2_pieceWith_28 (by decide) rfl ?_
  obtain rfl := some_inv hf
  exact V_iret C0 () rfl rfl dX2_pieceWith_29
abbrev RM_X2_addPiece : Room := { frames := 0, cells := 0, slots := 0, locals := 0 }
theorem in_X2_addPiece_X2 : ∀ w ∈ u_ws RX2 TX2 8, w ∈ wsX2_addPiece := by decide +kernel
theorem fl_X2_addPiece_9 : FL RX2 wsX2_addPiece 2 9 1 RX2 TX2 8 := ⟨in_X2_addPiece_X2, rfl, by decide, by decide +kernel, rfl⟩
theorem fl_X2_addPiece_15 : FL RX2 wsX2_addPiece 2 15 2 RX2 TX2 8 := ⟨in_X2_addPiece_X2, rfl, by decide, by decide +kernel, rfl⟩
theorem fl_X2_addPiece_18 : FL RX2 wsX2_addPiece 2 18 3 RX2 TX2 8 := ⟨in_X2_addPiece_X2, rfl, by decide, by decide +kernel, rfl⟩
theorem fl_X2_addPiece_30 : FL RX2 wsX2_addPiece 2 30 0 RX2 TX2 8 := ⟨in_X2_addPiece_X2, rfl, by decide, by decide +kernel, rfl⟩
set_option maxRecDepth 100000 in
set_option maxHeartbeats 4000000 in
theorem c_X2_addPiece (l : Launch) (dC : Nat → ClassId) (dI : Nat → Nat → Nat) (cI cJ cZ cO : ClassId) (ac_ : Nat → Nat) (N : Nat) (ct : CV) (x1 : Int32) (x2 : Int32) (x3 : Int32) (o : CV) (hf : f_X2_addPiece N ct x1 x2 x3 = some o) : MetV l yX2_addPiece wsX2_addPiece RM_X2_addPiece (dC, dI) (TY cI cJ cZ cO) [.ref (ac_ 0), .int x1, .int x2, .int x3] (W_C cI cJ cZ cO ac_ ct) (fun _ : Unit => True) (fun _ => (W_C cI cJ cZ cO ac_ o)) := by
  refine MetV.ofV (cc := cX2_addPiece) (maxL := 4) (ret := none) (own := RX2) (lv0 := [(0, .ref (ac_ 0)), (1, .int x1), (2, .int x2), (3, .int x3)]) (by decide) rfl rfl (Nat.le_of_ble_eq_true rfl) rfl ?_
  intro p e s m below meth c A C0 _
  unfold f_X2_addPiece at hf
  refine V_aload_n C0 dX2_addPiece_0 0 rfl rfl ?_
  refine V_get C0 fl_X2_addPiece_30 0 rfl rfl dX2_addPiece_1 rfl ?_
  refine V_bipush (v := 16) C0 dX2_addPiece_4 (by decide) rfl ?_
  refine V_icmp_lt (tgt := 10) C0 dX2_addPiece_6 (by decide) rfl (fun c6 => ?_) (fun c6 => ?_)
  · have hf := ite_t c6 hf
    refine V_aload_n C0 dX2_addPiece_10 0 rfl rfl ?_
    refine V_get C0 fl_X2_addPiece_9 0 rfl rfl dX2_addPiece_11 rfl ?_
    refine V_aload_n C0 dX2_addPiece_14 0 rfl rfl ?_
    refine V_get C0 fl_X2_addPiece_30 0 rfl rfl dX2_addPiece_15 rfl ?_
    refine V_iload_n C0 dX2_addPiece_18 1 rfl rfl ?_
    obtain ⟨hi19, hf⟩ := ck_inv hf
    refine V_iast (ws' := (W_C cI cJ cZ cO ac_ ((ct.1, upd ct.2.1 (ct.1.toNatClampNeg) x1, ct.2.2.1, ct.2.2.2.1, ct.2.2.2.2.1, ct.2.2.2.2.2.1, ct.2.2.2.2.2.2.1, ct.2.2.2.2.2.2.2)))) C0 1 0 rfl rfl hi19 dX2_addPiece_19 rfl rfl ?_
    refine V_aload_n C0 dX2_addPiece_20 0 rfl rfl ?_
    refine V_get C0 fl_X2_addPiece_15 0 rfl rfl dX2_addPiece_21 rfl ?_
    refine V_aload_n C0 dX2_addPiece_24 0 rfl rfl ?_
    refine V_get C0 fl_X2_addPiece_30 0 rfl rfl dX2_addPiece_25 rfl ?_
    refine V_iload_n C0 dX2_addPiece_28 2 rfl rfl ?_
    obtain ⟨hi29, hf⟩ := ck_inv hf
    refine V_iast (ws' := (W_C cI cJ cZ cO ac_ ((ct.1, upd ct.2.1 (ct.1.toNatClampNeg) x1, upd ct.2.2.1 (ct.1.toNatClampNeg) x2, ct.2.2.2.1, ct.2.2.2.2.1, ct.2.2.2.2.2.1, ct.2.2.2.2.2.2.1, ct.2.2.2.2.2.2.2)))) C0 2 0 rfl rfl hi29 dX2_addPiece_29 rfl rfl ?_
    refine V_aload_n C0 dX2_addPiece_30 0 rfl rfl ?_
    refine V_get C0 fl_X2_addPiece_18 0 rfl rfl dX2_addPiece_31 rfl ?_
    refine V_aload_n C0 dX2_addPiece_34 0 rfl rfl ?_
    refine V_get C0 fl_X2_addPiece_30 0 rfl rfl dX2_addPiece_35 rfl ?_
    refine V_iload_n C0 dX2_addPiece_38 3 rfl rfl ?_
    obtain ⟨hi39, hf⟩ := ck_inv hf
    refine V_iast (ws' := (W_C cI cJ cZ cO ac_ ((ct.1, upd ct.2.1 (ct.1.toNatClampNeg) x1, upd ct.2.2.1 (ct.1.toNatClampNeg) x2, upd ct.2.2.2.1 (ct.1.toNatClampNeg) x3, ct.2.2.2.2.1, ct.2.2.2.2.2.1, ct.2.2.2.2.2.2.1, ct.2.2.2.2.2.2.2)))) C0 3 0 rfl rfl hi39 dX2_addPiece_39 rfl rfl ?_
    refine V_aload_n C0 dX2_addPiece_40 0 rfl rfl ?_
    refine V_dup C0 dX2_addPiece_41 rfl rfl ?_
    refine V_get C0 fl_X2_addPiece_30 0 rfl rfl dX2_addPiece_42 rfl ?_
    refine V_iconst (v := 1) C0 dX2_addPiece_45 (by decide) rfl ?_
    refine V_iadd C0 dX2_addPiece_46 rfl ?_
    refine V_put (ws' := (W_C cI cJ cZ cO ac_ ((ct.1 + 1, upd ct.2.1 (ct.1.toNatClampNeg) x1, upd ct.2.2.1 (ct.1.toNatClampNeg) x2, upd ct.2.2.2.1 (ct.1.toNatClampNeg) x3, ct.2.2.2.2.1, ct.2.2.2.2.2.1, ct.2.2.2.2.2.2.1, ct.2.2.2.2.2.2.2)))) C0 fl_X2_addPiece_30 tyX2_ok nmX2 rfl 0 rfl rfl rfl (Nat.le_of_ble_eq_true rfl) dX2_addPiece_47 rfl rfl ?_
    obtain rfl := some_inv hf
    exact V_vret C0 () trivial rfl dX2_addPiece_50
  · have hf := ite_f c6 hf
    obtain rfl := some_inv hf
    exact V_vret C0 () trivial rfl dX2_addPiece_9
abbrev RM_X2_removePiece : Room := { frames := 1, cells := 0, slots := 0, locals := 60 }
theorem in_X2_removePiece_X2 : ∀ w ∈ u_ws RX2 TX2 8, w ∈ wsX2_removePiece := by decide +kernel
theorem fl_X2_removePiece_9 : FL RX2 wsX2_removePiece 2 9 1 RX2 TX2 8 := ⟨in_X2_removePiece_X2, rfl, by decide, by decide +kernel, rfl⟩
theorem fl_X2_removePiece_15 : FL RX2 wsX2_removePiece 2 15 2 RX2 TX2 8 := ⟨in_X2_removePiece_X2, rfl, by decide, by decide +kernel, rfl⟩
theorem fl_X2_removePiece_18 : FL RX2 wsX2_removePiece 2 18 3 RX2 TX2 8 := ⟨in_X2_removePiece_X2, rfl, by decide, by decide +kernel, rfl⟩
theorem fl_X2_removePiece_30 : FL RX2 wsX2_removePiece 2 30 0 RX2 TX2 8 := ⟨in_X2_removePiece_X2, rfl, by decide, by decide +kernel, rfl⟩
set_option maxRecDepth 100000 in
set_option maxHeartbeats 4000000 in
theorem c_X2_removePiece (l : Launch) (dC : Nat → ClassId) (dI : Nat → Nat → Nat) (cI cJ cZ cO : ClassId) (ac_ : Nat → Nat) (N : Nat) (ct : CV) (x1 : Int32) (o : CV) (hf : f_X2_removePiece N ct x1 = some o) : MetV l yX2_removePiece wsX2_removePiece RM_X2_removePiece (dC, dI) (TY cI cJ cZ cO) [.ref (ac_ 0), .int x1] (W_C cI cJ cZ cO ac_ ct) (fun _ : Unit => True) (fun _ => (W_C cI cJ cZ cO ac_ o)) := by
  refine MetV.ofV (cc := cX2_removePiece) (maxL := 2) (ret := none) (own := RX2) (lv0 := [(0, .ref (ac_ 0)), (1, .int x1)]) (by decide) rfl rfl (Nat.le_of_ble_eq_true rfl) rfl ?_
  intro p e s m below meth c A C0 _
  unfold f_X2_removePiece at hf
  refine V_iload_n C0 dX2_removePiece_0 1 rfl rfl ?_
  refine V_if_lt (tgt := 12) C0 dX2_removePiece_1 (by decide) rfl (fun c1 => ?_) (fun c1 => ?_)
  · have hf := ite_t c1 hf
    obtain rfl := some_inv hf
    exact V_vret C0 () trivial rfl dX2_removePiece_12
  · have hf := ite_f c1 hf
    refine V_iload_n C0 dX2_removePiece_4 1 rfl rfl ?_
    refine V_aload_n C0 dX2_removePiece_5 0 rfl rfl ?_
    refine V_get C0 fl_X2_removePiece_30 0 rfl rfl dX2_removePiece_6 rfl ?_
    refine V_icmp_lt (tgt := 13) C0 dX2_removePiece_9 (by decide) rfl (fun c9 => ?_) (fun c9 => ?_)
    · have hf := ite_t c9 hf
      refine V_aload_n C0 dX2_removePiece_13 0 rfl rfl ?_
      refine V_dup C0 dX2_removePiece_14 rfl rfl ?_
      refine V_get C0 fl_X2_removePiece_30 0 rfl rfl dX2_removePiece_15 rfl ?_
      refine V_iconst (v := 1) C0 dX2_removePiece_18 (by decide) rfl ?_
      refine V_isub C0 dX2_removePiece_19 rfl ?_
      refine V_put (ws' := (W_C cI cJ cZ cO ac_ ((ct.1 - 1, ct.2.1, ct.2.2.1, ct.2.2.2.1, ct.2.2.2.2.1, ct.2.2.2.2.2.1, ct.2.2.2.2.2.2.1, ct.2.2.2.2.2.2.2)))) C0 fl_X2_removePiece_30 tyX2_ok nmX2 rfl 0 rfl rfl rfl (Nat.le_of_ble_eq_true rfl) dX2_removePiece_20 rfl rfl ?_
      refine V_aload_n C0 dX2_removePiece_23 0 rfl rfl ?_
      refine V_get C0 fl_X2_removePiece_9 0 rfl rfl dX2_removePiece_24 rfl ?_
      refine V_iload_n C0 dX2_removePiece_27 1 rfl rfl ?_
      refine V_iconst (v := 1) C0 dX2_removePiece_28 (by decide) rfl ?_
      refine V_iadd C0 dX2_removePiece_29 rfl ?_
      refine V_aload_n C0 dX2_removePiece_30 0 rfl rfl ?_
      refine V_get C0 fl_X2_removePiece_9 0 rfl rfl dX2_removePiece_31 rfl ?_
      refine V_iload_n C0 dX2_removePiece_34 1 rfl rfl ?_
      refine V_aload_n C0 dX2_removePiece_35 0 rfl rfl ?_
      refine V_get C0 fl_X2_removePiece_30 0 rfl rfl dX2_removePiece_36 rfl ?_
      refine V_iload_n C0 dX2_removePiece_39 1 rfl rfl ?_
      refine V_isub C0 dX2_removePiece_40 rfl ?_
      obtain ⟨hk41, hf⟩ := ckc_inv hf
      refine V_copy (ws' := (W_C cI cJ cZ cO ac_ ((ct.1 - 1, va_cpy ct.2.1 ct.2.1 ((x1 + 1).toNatClampNeg) (x1.toNatClampNeg) (((ct.1 - 1) - x1).toNatClampNeg), ct.2.2.1, ct.2.2.2.1, ct.2.2.2.2.1, ct.2.2.2.2.2.1, ct.2.2.2.2.2.2.1, ct.2.2.2.2.2.2.2)))) C0 (index := 34) (by decide +kernel) (by decide +kernel) (by decide +kernel) (by decide +kernel) 1 1 0 rfl rfl rfl hk41 (Nat.le_of_ble_eq_true rfl) (Nat.le_of_ble_eq_true rfl) dX2_removePiece_41 rfl rfl ?_
      refine V_aload_n C0 dX2_removePiece_44 0 rfl rfl ?_
      refine V_get C0 fl_X2_removePiece_15 0 rfl rfl dX2_removePiece_45 rfl ?_
      refine V_iload_n C0 dX2_removePiece_48 1 rfl rfl ?_
      refine V_iconst (v := 1) C0 dX2_removePiece_49 (by decide) rfl ?_
      refine V_iadd C0 dX2_removePiece_50 rfl ?_
      refine V_aload_n C0 dX2_removePiece_51 0 rfl rfl ?_
      refine V_get C0 fl_X2_removePiece_15 0 rfl rfl dX2_removePiece_52 rfl ?_
      refine V_iload_n C0 dX2_removePiece_55 1 rfl rfl ?_
      refine V_aload_n C0 dX2_removePiece_56 0 rfl rfl ?_
      refine V_get C0 fl_X2_removePiece_30 0 rfl rfl dX2_removePiece_57 rfl ?_
      refine V_iload_n C0 dX2_removePiece_60 1 rfl rfl ?_
      refine V_isub C0 dX2_removePiece_61 rfl ?_
      obtain ⟨hk62, hf⟩ := ckc_inv hf
      refine V_copy (ws' := (W_C cI cJ cZ cO ac_ ((ct.1 - 1, va_cpy ct.2.1 ct.2.1 ((x1 + 1).toNatClampNeg) (x1.toNatClampNeg) (((ct.1 - 1) - x1).toNatClampNeg), va_cpy ct.2.2.1 ct.2.2.1 ((x1 + 1).toNatClampNeg) (x1.toNatClampNeg) (((ct.1 - 1) - x1).toNatClampNeg), ct.2.2.2.1, ct.2.2.2.2.1, ct.2.2.2.2.2.1, ct.2.2.2.2.2.2.1, ct.2.2.2.2.2.2.2)))) C0 (index := 34) (by decide +kernel) (by decide +kernel) (by decide +kernel) (by decide +kernel) 2 2 0 rfl rfl rfl hk62 (Nat.le_of_ble_eq_true rfl) (Nat.le_of_ble_eq_true rfl) dX2_removePiece_62 rfl rfl ?_
      refine V_aload_n C0 dX2_removePiece_65 0 rfl rfl ?_
      refine V_get C0 fl_X2_removePiece_18 0 rfl rfl dX2_removePiece_66 rfl ?_
      refine V_iload_n C0 dX2_removePiece_69 1 rfl rfl ?_
      refine V_iconst (v := 1) C0 dX2_removePiece_70 (by decide) rfl ?_
      refine V_iadd C0 dX2_removePiece_71 rfl ?_
      refine V_aload_n C0 dX2_removePiece_72 0 rfl rfl ?_
      refine V_get C0 fl_X2_removePiece_18 0 rfl rfl dX2_removePiece_73 rfl ?_
      refine V_iload_n C0 dX2_removePiece_76 1 rfl rfl ?_
      refine V_aload_n C0 dX2_removePiece_77 0 rfl rfl ?_
      refine V_get C0 fl_X2_removePiece_30 0 rfl rfl dX2_removePiece_78 rfl ?_
      refine V_iload_n C0 dX2_removePiece_81 1 rfl rfl ?_
      refine V_isub C0 dX2_removePiece_82 rfl ?_
      obtain ⟨hk83, hf⟩ := ckc_inv hf
      refine V_copy (ws' := (W_C cI cJ cZ cO ac_ ((ct.1 - 1, va_cpy ct.2.1 ct.2.1 ((x1 + 1).toNatClampNeg) (x1.toNatClampNeg) (((ct.1 - 1) - x1).toNatClampNeg), va_cpy ct.2.2.1 ct.2.2.1 ((x1 + 1).toNatClampNeg) (x1.toNatClampNeg) (((ct.1 - 1) - x1).toNatClampNeg), va_cpy ct.2.2.2.1 ct.2.2.2.1 ((x1 + 1).toNatClampNeg) (x1.toNatClampNeg) (((ct.1 - 1) - x1).toNatClampNeg), ct.2.2.2.2.1, ct.2.2.2.2.2.1, ct.2.2.2.2.2.2.1, ct.2.2.2.2.2.2.2)))) C0 (index := 34) (by decide +kernel) (by decide +kernel) (by decide +kernel) (by decide +kernel) 3 3 0 rfl rfl rfl hk83 (Nat.le_of_ble_eq_true rfl) (Nat.le_of_ble_eq_true rfl) dX2_removePiece_83 rfl rfl ?_
      obtain rfl := some_inv hf
      exact V_vret C0 () trivial rfl dX2_removePiece_86
    · have hf := ite_f c9 hf
      obtain rfl := some_inv hf
      exact V_vret C0 () trivial rfl dX2_removePiece_12
abbrev RM_X2_letterAt : Room := { frames := 0, cells := 0, slots := 0, locals := 0 }
theorem in_X2_letterAt_X2 : ∀ w ∈ u_ws RX2 TX2 8, w ∈ wsX2_letterAt := by decide +kernel
theorem fl_X2_letterAt_27 : FL RX2 wsX2_letterAt 2 27 7 RX2 TX2 8 := ⟨in_X2_letterAt_X2, rfl, by decide, by decide +kernel, rfl⟩
set_option maxRecDepth 100000 in
set_option maxHeartbeats 4000000 in
theorem c_X2_letterAt (l : Launch) (dC : Nat → ClassId) (dI : Nat → Nat → Nat) (cI cJ cZ cO : ClassId) (ac_ : Nat → Nat) (N : Nat) (ct : CV) (x1 : Int32) (x2 : Int32) (o : Int32) (hf : f_X2_letterAt N ct x1 x2 = some o) : MetI l yX2_letterAt wsX2_letterAt RM_X2_letterAt (dC, dI) (TY cI cJ cZ cO) [.ref (ac_ 0), .int x1, .int x2] (W_C cI cJ cZ cO ac_ ct) (fun r (_ : Unit) => r = o) (fun _ => (W_C cI cJ cZ cO ac_ ct)) := by
  refine MetI.ofV (cc := cX2_letterAt) (maxL := 3) (ret := (some .int)) (own := RX2) (lv0 := [(0, .ref (ac_ 0)), (1, .int x1), (2, .int x2)]) (by decide) rfl rfl (Nat.le_of_ble_eq_true rfl) rfl ?_
  intro p e s m below meth c A C0 _
  unfold f_X2_letterAt at hf
  refine V_aload_n C0 dX2_letterAt_0 0 rfl rfl ?_
  refine V_get C0 fl_X2_letterAt_27 0 rfl rfl dX2_letterAt_1 rfl ?_
  refine V_iload_n C0 dX2_letterAt_4 1 rfl rfl ?_
  refine V_bipush (v := 12) C0 dX2_letterAt_5 (by decide) rfl ?_
  refine V_imul C0 dX2_letterAt_7 rfl ?_
  refine V_iload_n C0 dX2_letterAt_8 2 rfl rfl ?_
  refine V_iadd C0 dX2_letterAt_9 rfl ?_
  obtain ⟨hi10, hf⟩ := ck_inv hf
  refine V_iald C0 6 0 rfl rfl hi10 dX2_letterAt_10 rfl ?_
  obtain rfl := some_inv hf
  exact V_iret C0 () rfl rfl dX2_letterAt_11
abbrev RM_X2_addWord : Room := { frames := 1, cells := 0, slots := 0, locals := 21 }
theorem in_X2_addWord_X2 : ∀ w ∈ u_ws RX2 TX2 8, w ∈ wsX2_addWord := by decide +kernel
theorem in_X2_addWord_X6 : ∀ w ∈ u_ws RX6 TX6 2, w ∈ wsX2_addWord := by decide +kernel
theorem fl_X2_addWord_21 : FL RX2 wsX2_addWord 2 21 5 RX2 TX2 8 := ⟨in_X2_addWord_X2, rfl, by decide, by decide +kernel, rfl⟩
theorem fl_X2_addWord_24 : FL RX2 wsX2_addWord 2 24 6 RX2 TX2 8 := ⟨in_X2_addWord_X2, rfl, by decide, by decide +kernel, rfl⟩
theorem fl_X2_addWord_27 : FL RX2 wsX2_addWord 2 27 7 RX2 TX2 8 := ⟨in_X2_addWord_X2, rfl, by decide, by decide +kernel, rfl⟩
theorem fl_X2_addWord_40 : FL RX2 wsX2_addWord 2 40 4 RX2 TX2 8 := ⟨in_X2_addWord_X2, rfl, by decide, by decide +kernel, rfl⟩
theorem fl_X2_addWord_43 : FL RX2 wsX2_addWord 6 43 0 RX6 TX6 2 := ⟨in_X2_addWord_X6, rfl, by decide, by decide +kernel, rfl⟩
set_option maxRecDepth 100000 in
set_option maxHeartbeats 4000000 in
theorem c_X2_addWord (l : Launch) (dC : Nat → ClassId) (dI : Nat → Nat → Nat) (cI cJ cZ cO : ClassId) (ac_ : Nat → Nat) (ap : Nat → Nat) (N : Nat) (ct : CV) (pd : PV) (x2 : Int32) (o : CV) (hf : f_X2_addWord N ct pd x2 = some o) : MetV l yX2_addWord wsX2_addWord RM_X2_addWord (dC, dI) (TY cI cJ cZ cO) [.ref (ac_ 0), .ref (ap 0), .int x2] (W_C cI cJ cZ cO ac_ ct ++ (W_P cI cJ cZ cO ap pd)) (fun _ : Unit => True) (fun _ => (W_C cI cJ cZ cO ac_ o ++ (W_P cI cJ cZ cO ap pd))) := by
  refine MetV.ofV (cc := cX2_addWord) (maxL := 4) (ret := none) (own := RX2) (lv0 := [(0, .ref (ac_ 0)), (1, .ref (ap 0)), (2, .int x2)]) (by decide) rfl rfl (Nat.le_of_ble_eq_true rfl) rfl ?_
  intro p e s m below meth c A C0 _
  unfold f_X2_addWord at hf
  refine V_aload_n C0 dX2_addWord_0 0 rfl rfl ?_
  refine V_get C0 fl_X2_addWord_40 0 rfl rfl dX2_addWord_1 rfl ?_
  refine V_bipush (v := 8) C0 dX2_addWord_4 (by decide) rfl ?_
  refine V_icmp_ge (tgt := 18) C0 dX2_addWord_6 (by decide) rfl (fun c6 => ?_) (fun c6 => ?_)
  · have hf := ite_t c6 hf
    obtain rfl := some_inv hf
    exact V_vret C0 () trivial rfl dX2_addWord_18
  · have hf := ite_f c6 hf
    refine V_aload_n C0 dX2_addWord_9 1 rfl rfl ?_
    refine V_get C0 fl_X2_addWord_43 7 rfl rfl dX2_addWord_10 rfl ?_
    refine V_bipush (v := 12) C0 dX2_addWord_13 (by decide) rfl ?_
    refine V_icmp_le (tgt := 19) C0 dX2_addWord_15 (by decide) rfl (fun c15 => ?_) (fun c15 => ?_)
    · have hf := ite_t c15 hf
      refine V_iconst (v := 0) C0 dX2_addWord_19 (by decide) rfl ?_
      refine V_istore_n (lv' := [(3, .int 0), (0, .ref (ac_ 0)), (1, .ref (ap 0)), (2, .int x2)]) C0 dX2_addWord_20 rfl (by decide) rfl rfl ?_
      have hL21 : ∀ (K : CV → Option (CV)), (∀ (ct : CV), K ct = some o → V p l e RM_X2_addWord s m ([.ref (ac_ 0), .ref (ap 0), .int x2] : List Value).toArray below meth c 4 (dC, dI) A (MQ below (va_Qv (fun _ : Unit => True) (PostW (dC, dI) (TY cI cJ cZ cO) A (fun _ => (W_C cI cJ cZ cO ac_ o ++ (W_P cI cJ cZ cO ap pd)))) A) ([.ref (ac_ 0), .ref (ap 0), .int x2] : List Value).toArray s 0 0 A) 0 0 (W_C cI cJ cZ cO ac_ ct ++ (W_P cI cJ cZ cO ap pd)) 54 [(0, .ref (ac_ 0)), (1, .ref (ap 0)), (2, .int x2)] []) → ∀ (n : Nat) (x3 : Int32) (ct : CV), f_X2_addWord_L21 N pd x2  K n x3 ct = some o → V p l e RM_X2_addWord s m ([.ref (ac_ 0), .ref (ap 0), .int x2] : List Value).toArray below meth c 4 (dC, dI) A (MQ below (va_Qv (fun _ : Unit => True) (PostW (dC, dI) (TY cI cJ cZ cO) A (fun _ => (W_C cI cJ cZ cO ac_ o ++ (W_P cI cJ cZ cO ap pd)))) A) ([.ref (ac_ 0), .ref (ap 0), .int x2] : List Value).toArray s 0 0 A) 0 0 (W_C cI cJ cZ cO ac_ ct ++ (W_P cI cJ cZ cO ap pd)) 21 [(0, .ref (ac_ 0)), (1, .ref (ap 0)), (2, .int x2), (3, .int x3)] [] := by
        intro  K hK n
        induction n with
        | zero => intro x3 ct hf; cases hf
        | succ n hREC =>
          intro x3 ct hf
          rw [f_X2_addWord_L21] at hf
          refine V_iload_n C0 dX2_addWord_21 3 rfl rfl ?_
          refine V_aload_n C0 dX2_addWord_22 1 rfl rfl ?_
          refine V_get C0 fl_X2_addWord_43 7 rfl rfl dX2_addWord_23 rfl ?_
          refine V_icmp_ge (tgt := 54) C0 dX2_addWord_26 (by decide) rfl (fun c26 => ?_) (fun c26 => ?_)
          · have hf := ite_t c26 hf
            exact V.sub [0, 1, 2] rfl (hK ct hf)
          · have hf := ite_f c26 hf
            refine V_aload_n C0 dX2_addWord_29 0 rfl rfl ?_
            refine V_get C0 fl_X2_addWord_27 0 rfl rfl dX2_addWord_30 rfl ?_
            refine V_aload_n C0 dX2_addWord_33 0 rfl rfl ?_
            refine V_get C0 fl_X2_addWord_40 0 rfl rfl dX2_addWord_34 rfl ?_
            refine V_bipush (v := 12) C0 dX2_addWord_37 (by decide) rfl ?_
            refine V_imul C0 dX2_addWord_39 rfl ?_
            refine V_iload_n C0 dX2_addWord_40 3 rfl rfl ?_
            refine V_iadd C0 dX2_addWord_41 rfl ?_
            refine V_aload_n C0 dX2_addWord_42 1 rfl rfl ?_
            refine V_iload_n C0 dX2_addWord_43 3 rfl rfl ?_
            obtain ⟨r_44, hc_44, hf⟩ := bind_inv hf
            refine V_cVI (ws' := (W_C cI cJ cZ cO ac_ ct ++ (W_P cI cJ cZ cO ap pd))) (As := [.int x3]) (b := ap 0) (st := [.int ((ct.2.2.2.2.1 * 12) + x3), .ref (ac_ 6)]) C0 (c_X6_letterAt l dC dI cI cJ cZ cO ap N pd x3 r_44 hc_44) rfl 1 gX2_addWord_X6_letterAt (by decide +kernel) ⟨Nat.le_of_ble_eq_true rfl, Nat.le_of_ble_eq_true rfl⟩ rfl 7 6 rfl rfl [7, 8] [0, 1, 2, 3, 4, 5, 6] [0, 1, 2, 3, 4, 5, 6, 7, 8] ⟨rfl, by decide +kernel, by decide +kernel, by decide +kernel, by decide +kernel, rfl, fun _ => rfl⟩ rfl (Nat.le_of_ble_eq_true rfl) dX2_addWord_44 rfl ⟨Nat.zero_le _, Nat.zero_le _⟩ ?_
            obtain ⟨hi47, hf⟩ := ck_inv hf
            refine V_iast (ws' := (W_C cI cJ cZ cO ac_ ((ct.1, ct.2.1, ct.2.2.1, ct.2.2.2.1, ct.2.2.2.2.1, ct.2.2.2.2.2.1, ct.2.2.2.2.2.2.1, upd ct.2.2.2.2.2.2.2 (((ct.2.2.2.2.1 * 12) + x3).toNatClampNeg) r_44)) ++ (W_P cI cJ cZ cO ap pd))) C0 6 0 rfl rfl hi47 dX2_addWord_47 rfl rfl ?_
            refine V_iinc (k := 3) (v := x3 + 1) (lv' := [(3, .int (x3 + 1)), (0, .ref (ac_ 0)), (1, .ref (ap 0)), (2, .int x2)]) C0 dX2_addWord_48 rfl rfl (by decide) rfl rfl ?_
            refine V_goto (tgt := 21) C0 dX2_addWord_51 (by decide) ?_
            exact V.sub [1, 2, 3, 0] rfl (hREC (x3 + 1) ((ct.1, ct.2.1, ct.2.2.1, ct.2.2.2.1, ct.2.2.2.2.1, ct.2.2.2.2.2.1, ct.2.2.2.2.2.2.1, upd ct.2.2.2.2.2.2.2 (((ct.2.2.2.2.1 * 12) + x3).toNatClampNeg) r_44)) hf)
      refine V.sub [1, 2, 3, 0] rfl (hL21  _ ?_ N 0 ct hf)
      intro ct_21 hf
      refine V_aload_n C0 dX2_addWord_54 0 rfl rfl ?_
      refine V_get C0 fl_X2_addWord_21 0 rfl rfl dX2_addWord_55 rfl ?_
      refine V_aload_n C0 dX2_addWord_58 0 rfl rfl ?_
      refine V_get C0 fl_X2_addWord_40 0 rfl rfl dX2_addWord_59 rfl ?_
      refine V_aload_n C0 dX2_addWord_62 1 rfl rfl ?_
      refine V_get C0 fl_X2_addWord_43 7 rfl rfl dX2_addWord_63 rfl ?_
      obtain ⟨hi66, hf⟩ := ck_inv hf
      refine V_iast (ws' := (W_C cI cJ cZ cO ac_ ((ct_21.1, ct_21.2.1, ct_21.2.2.1, ct_21.2.2.2.1, ct_21.2.2.2.2.1, upd ct_21.2.2.2.2.2.1 (ct_21.2.2.2.2.1.toNatClampNeg) pd.1, ct_21.2.2.2.2.2.2.1, ct_21.2.2.2.2.2.2.2)) ++ (W_P cI cJ cZ cO ap pd))) C0 4 0 rfl rfl hi66 dX2_addWord_66 rfl rfl ?_
      refine V_aload_n C0 dX2_addWord_67 0 rfl rfl ?_
      refine V_get C0 fl_X2_addWord_24 0 rfl rfl dX2_addWord_68 rfl ?_
      refine V_aload_n C0 dX2_addWord_71 0 rfl rfl ?_
      refine V_get C0 fl_X2_addWord_40 0 rfl rfl dX2_addWord_72 rfl ?_
      refine V_iload_n C0 dX2_addWord_75 2 rfl rfl ?_
      obtain ⟨hi76, hf⟩ := ck_inv hf
      refine V_iast (ws' := (W_C cI cJ cZ cO ac_ ((ct_21.1, ct_21.2.1, ct_21.2.2.1, ct_21.2.2.2.1, ct_21.2.2.2.2.1, upd ct_21.2.2.2.2.2.1 (ct_21.2.2.2.2.1.toNatClampNeg) pd.1, upd ct_21.2.2.2.2.2.2.1 (ct_21.2.2.2.2.1.toNatClampNeg) x2, ct_21.2.2.2.2.2.2.2)) ++ (W_P cI cJ cZ cO ap pd))) C0 5 0 rfl rfl hi76 dX2_addWord_76 rfl rfl ?_
      refine V_aload_n C0 dX2_addWord_77 0 rfl rfl ?_
      refine V_dup C0 dX2_addWord_78 rfl rfl ?_
      refine V_get C0 fl_X2_addWord_40 0 rfl rfl dX2_addWord_79 rfl ?_
      refine V_iconst (v := 1) C0 dX2_addWord_82 (by decide) rfl ?_
      refine V_iadd C0 dX2_addWord_83 rfl ?_
      refine V_put (ws' := (W_C cI cJ cZ cO ac_ ((ct_21.1, ct_21.2.1, ct_21.2.2.1, ct_21.2.2.2.1, ct_21.2.2.2.2.1 + 1, upd ct_21.2.2.2.2.2.1 (ct_21.2.2.2.2.1.toNatClampNeg) pd.1, upd ct_21.2.2.2.2.2.2.1 (ct_21.2.2.2.2.1.toNatClampNeg) x2, ct_21.2.2.2.2.2.2.2)) ++ (W_P cI cJ cZ cO ap pd))) C0 fl_X2_addWord_40 tyX2_ok nmX2 rfl 0 rfl rfl rfl (Nat.le_of_ble_eq_true rfl) dX2_addWord_84 rfl rfl ?_
      obtain rfl := some_inv hf
      exact V_vret C0 () trivial rfl dX2_addWord_87
    · have hf := ite_f c15 hf
      obtain rfl := some_inv hf
      exact V_vret C0 () trivial rfl dX2_addWord_18
abbrev RM_X2_removeWord : Room := { frames := 1, cells := 0, slots := 0, locals := 60 }
theorem in_X2_removeWord_X2 : ∀ w ∈ u_ws RX2 TX2 8, w ∈ wsX2_removeWord := by decide +kernel
theorem fl_X2_removeWord_21 : FL RX2 wsX2_removeWord 2 21 5 RX2 TX2 8 := ⟨in_X2_removeWord_X2, rfl, by decide, by decide +kernel, rfl⟩
theorem fl_X2_removeWord_24 : FL RX2 wsX2_removeWord 2 24 6 RX2 TX2 8 := ⟨in_X2_removeWord_X2, rfl, by decide, by decide +kernel, rfl⟩
theorem fl_X2_removeWord_27 : FL RX2 wsX2_removeWord 2 27 7 RX2 TX2 8 := ⟨in_X2_removeWord_X2, rfl, by decide, by decide +kernel, rfl⟩
theorem fl_X2_removeWord_40 : FL RX2 wsX2_removeWord 2 40 4 RX2 TX2 8 := ⟨in_X2_removeWord_X2, rfl, by decide, by decide +kernel, rfl⟩
set_option maxRecDepth 100000 in
set_option maxHeartbeats 4000000 in
theorem c_X2_removeWord (l : Launch) (dC : Nat → ClassId) (dI : Nat → Nat → Nat) (cI cJ cZ cO : ClassId) (ac_ : Nat → Nat) (N : Nat) (ct : CV) (x1 : Int32) (o : CV) (hf : f_X2_removeWord N ct x1 = some o) : MetV l yX2_removeWord wsX2_removeWord RM_X2_removeWord (dC, dI) (TY cI cJ cZ cO) [.ref (ac_ 0), .int x1] (W_C cI cJ cZ cO ac_ ct) (fun _ : Unit => True) (fun _ => (W_C cI cJ cZ cO ac_ o)) := by
  refine MetV.ofV (cc := cX2_removeWord) (maxL := 3) (ret := none) (own := RX2) (lv0 := [(0, .ref (ac_ 0)), (1, .int x1)]) (by decide) rfl rfl (Nat.le_of_ble_eq_true rfl) rfl ?_
  intro p e s m below meth c A C0 _
  unfold f_X2_removeWord at hf
  refine V_iload_n C0 dX2_removeWord_0 1 rfl rfl ?_
  refine V_if_lt (tgt := 12) C0 dX2_removeWord_1 (by decide) rfl (fun c1 => ?_) (fun c1 => ?_)
  · have hf := ite_t c1 hf
    obtain rfl := some_inv hf
    exact V_vret C0 () trivial rfl dX2_removeWord_12
  · have hf := ite_f c1 hf
    refine V_iload_n C0 dX2_removeWord_4 1 rfl rfl ?_
    refine V_aload_n C0 dX2_removeWord_5 0 rfl rfl ?_
    refine V_get C0 fl_X2_removeWord_40 0 rfl rfl dX2_removeWord_6 rfl ?_
    refine V_icmp_lt (tgt := 13) C0 dX2_removeWord_9 (by decide) rfl (fun c9 => ?_) (fun c9 => ?_)
    · have hf := ite_t c9 hf
      refine V_aload_n C0 dX2_removeWord_13 0 rfl rfl ?_
      refine V_dup C0 dX2_removeWord_14 rfl rfl ?_
      refine V_get C0 fl_X2_removeWord_40 0 rfl rfl dX2_removeWord_15 rfl ?_
      refine V_iconst (v := 1) C0 dX2_removeWord_18 (by decide) rfl ?_
      refine V_isub C0 dX2_removeWord_19 rfl ?_
      refine V_put (ws' := (W_C cI cJ cZ cO ac_ ((ct.1, ct.2.1, ct.2.2.1, ct.2.2.2.1, ct.2.2.2.2.1 - 1, ct.2.2.2.2.2.1, ct.2.2.2.2.2.2.1, ct.2.2.2.2.2.2.2)))) C0 fl_X2_removeWord_40 tyX2_ok nmX2 rfl 0 rfl rfl rfl (Nat.le_of_ble_eq_true rfl) dX2_removeWord_20 rfl rfl ?_
      refine V_aload_n C0 dX2_removeWord_23 0 rfl rfl ?_
      refine V_get C0 fl_X2_removeWord_40 0 rfl rfl dX2_removeWord_24 rfl ?_
      refine V_iload_n C0 dX2_removeWord_27 1 rfl rfl ?_
      refine V_isub C0 dX2_removeWord_28 rfl ?_
      refine V_topi (fun x2_1 ex2_1 => ?_)
      have hf := bd_inv ex2_1 hf
      refine V_istore_n (lv' := [(2, .int x2_1), (0, .ref (ac_ 0)), (1, .int x1)]) C0 dX2_removeWord_29 rfl (by decide) rfl rfl ?_
      refine V_aload_n C0 dX2_removeWord_30 1 rfl rfl ?_
      refine V_get C0 fl_X2_removeWord_21 0 rfl rfl dX2_removeWord_31 rfl ?_
      refine V_iload_n C0 dX2_removeWord_34 2 rfl rfl ?_
      refine V_iconst (v := 1) C0 dX2_removeWord_35 (by decide) rfl ?_
      refine V_iadd C0 dX2_removeWord_36 rfl ?_
      refine V_aload_n C0 dX2_removeWord_37 1 rfl rfl ?_
      refine V_get C0 fl_X2_removeWord_21 0 rfl rfl dX2_removeWord_38 rfl ?_
      refine V_iload_n C0 dX2_removeWord_41 2 rfl rfl ?_
      refine V_iload_n C0 dX2_removeWord_42 0 rfl rfl ?_
      obtain ⟨hk43, hf⟩ := ckc_inv hf
      refine V_copy (ws' := (W_C cI cJ cZ cO ac_ ((ct.1, ct.2.1, ct.2.2.1, ct.2.2.2.1, ct.2.2.2.2.1 - 1, va_cpy ct.2.2.2.2.2.1 ct.2.2.2.2.2.1 ((x1 + 1).toNatClampNeg) (x1.toNatClampNeg) (x2_1.toNatClampNeg), ct.2.2.2.2.2.2.1, ct.2.2.2.2.2.2.2)))) C0 (index := 34) (by decide +kernel) (by decide +kernel) (by decide +kernel) (by decide +kernel) 4 4 0 rfl rfl rfl hk43 (Nat.le_of_ble_eq_true rfl) (Nat.le_of_ble_eq_true rfl) dX2_removeWord_43 rfl rfl ?_
      refine V_aload_n C0 dX2_removeWord_46 1 rfl rfl ?_
      refine V_get C0 fl_X2_removeWord_24 0 rfl rfl dX2_removeWord_47 rfl ?_
      refine V_iload_n C0 dX2_removeWord_50 2 rfl rfl ?_
      refine V_iconst (v := 1) C0 dX2_removeWord_51 (by decide) rfl ?_
      refine V_iadd C0 dX2_removeWord_52 rfl ?_
      refine V_aload_n C0 dX2_removeWord_53 1 rfl rfl ?_
      refine V_get C0 fl_X2_removeWord_24 0 rfl rfl dX2_removeWord_54 rfl ?_
      refine V_iload_n C0 dX2_removeWord_57 2 rfl rfl ?_
      refine V_iload_n C0 dX2_removeWord_58 0 rfl rfl ?_
      obtain ⟨hk59, hf⟩ := ckc_inv hf
      refine V_copy (ws' := (W_C cI cJ cZ cO ac_ ((ct.1, ct.2.1, ct.2.2.1, ct.2.2.2.1, ct.2.2.2.2.1 - 1, va_cpy ct.2.2.2.2.2.1 ct.2.2.2.2.2.1 ((x1 + 1).toNatClampNeg) (x1.toNatClampNeg) (x2_1.toNatClampNeg), va_cpy ct.2.2.2.2.2.2.1 ct.2.2.2.2.2.2.1 ((x1 + 1).toNatClampNeg) (x1.toNatClampNeg) (x2_1.toNatClampNeg), ct.2.2.2.2.2.2.2)))) C0 (index := 34) (by decide +kernel) (by decide +kernel) (by decide +kernel) (by decide +kernel) 5 5 0 rfl rfl rfl hk59 (Nat.le_of_ble_eq_true rfl) (Nat.le_of_ble_eq_true rfl) dX2_removeWord_59 rfl rfl ?_
      refine V_aload_n C0 dX2_removeWord_62 1 rfl rfl ?_
      refine V_get C0 fl_X2_removeWord_27 0 rfl rfl dX2_removeWord_63 rfl ?_
      refine V_iload_n C0 dX2_removeWord_66 2 rfl rfl ?_
      refine V_iconst (v := 1) C0 dX2_removeWord_67 (by decide) rfl ?_
      refine V_iadd C0 dX2_removeWord_68 rfl ?_
      refine V_bipush (v := 12) C0 dX2_removeWord_69 (by decide) rfl ?_
      refine V_imul C0 dX2_removeWord_71 rfl ?_
      refine V_aload_n C0 dX2_removeWord_72 1 rfl rfl ?_
      refine V_get C0 fl_X2_removeWord_27 0 rfl rfl dX2_removeWord_73 rfl ?_
      refine V_iload_n C0 dX2_removeWord_76 2 rfl rfl ?_
      refine V_bipush (v := 12) C0 dX2_removeWord_77 (by decide) rfl ?_
      refine V_imul C0 dX2_removeWord_79 rfl ?_
      refine V_iload_n C0 dX2_removeWord_80 0 rfl rfl ?_
      refine V_bipush (v := 12) C0 dX2_removeWord_81 (by decide) rfl ?_
      refine V_imul C0 dX2_removeWord_83 rfl ?_
      obtain ⟨hk84, hf⟩ := ckc_inv hf
      refine V_copy (ws' := (W_C cI cJ cZ cO ac_ ((ct.1, ct.2.1, ct.2.2.1, ct.2.2.2.1, ct.2.2.2.2.1 - 1, va_cpy ct.2.2.2.2.2.1 ct.2.2.2.2.2.1 ((x1 + 1).toNatClampNeg) (x1.toNatClampNeg) (x2_1.toNatClampNeg), va_cpy ct.2.2.2.2.2.2.1 ct.2.2.2.2.2.2.1 ((x1 + 1).toNatClampNeg) (x1.toNatClampNeg) (x2_1.toNatClampNeg), va_cpy ct.2.2.2.2.2.2.2 ct.2.2.2.2.2.2.2 (((x1 + 1) * 12).toNatClampNeg) ((x1 * 12).toNatClampNeg) ((x2_1 * 12).toNatClampNeg))))) C0 (index := 34) (by decide +kernel) (by decide +kernel) (by decide +kernel) (by decide +kernel) 6 6 0 rfl rfl rfl hk84 (Nat.le_of_ble_eq_true rfl) (Nat.le_of_ble_eq_true rfl) dX2_removeWord_84 rfl rfl ?_
      obtain rfl := some_inv hf
      exact V_vret C0 () trivial rfl dX2_removeWord_87
    · have hf := ite_f c9 hf
      obtain rfl := some_inv hf
      exact V_vret C0 () trivial rfl dX2_removeWord_12
end
