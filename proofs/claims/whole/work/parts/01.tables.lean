-- ===== PART A: goes FIRST, ahead of the names: the tables' words, and 'selects' of the private methods out of them =====
/-- a private method of a class that the tables say can be made, by its rows of tables_1 -/
def lw_okq (q : MethodName × Nat) : Prop := (q.1.cls ≠ "java/lang/invoke/MethodHandle" ∧ q.1.cls ≠ "java/lang/invoke/VarHandle") ∧ Cond.instantiable q.1.cls q.2 ∈ tables_1 ∧ Cond.privateMethod q.1 ∈ tables_1 ∧ Cond.instanceMethod q.1 ∈ tables_1
theorem lw_p0 : lw_okq (⟨"FloorTurn", "refuse", "(I)I"⟩, 7) := ⟨⟨by decide +kernel, by decide +kernel⟩, List.mem_of_getElem? (i := 18) (by decide +kernel), List.mem_of_getElem? (i := 344) (by decide +kernel), List.mem_of_getElem? (i := 345) (by decide +kernel)⟩
theorem lw_p1 : lw_okq (⟨"FloorTurn", "refusalToBuild", "(IIIII)I"⟩, 7) := ⟨⟨by decide +kernel, by decide +kernel⟩, List.mem_of_getElem? (i := 18) (by decide +kernel), List.mem_of_getElem? (i := 412) (by decide +kernel), List.mem_of_getElem? (i := 413) (by decide +kernel)⟩
theorem lw_p2 : lw_okq (⟨"FloorTurn", "refusalOfRow", "(I)I"⟩, 7) := ⟨⟨by decide +kernel, by decide +kernel⟩, List.mem_of_getElem? (i := 18) (by decide +kernel), List.mem_of_getElem? (i := 449) (by decide +kernel), List.mem_of_getElem? (i := 450) (by decide +kernel)⟩
theorem lw_p3 : lw_okq (⟨"FloorTurn", "canBuildFrom", "(LFloorTurn$Row;I)Z"⟩, 7) := ⟨⟨by decide +kernel, by decide +kernel⟩, List.mem_of_getElem? (i := 18) (by decide +kernel), List.mem_of_getElem? (i := 456) (by decide +kernel), List.mem_of_getElem? (i := 457) (by decide +kernel)⟩
theorem lw_p4 : lw_okq (⟨"FloorTurn$Piece", "keep", "(LFloorTurn$Part;II)V"⟩, 9) := ⟨⟨by decide +kernel, by decide +kernel⟩, List.mem_of_getElem? (i := 183) (by decide +kernel), List.mem_of_getElem? (i := 526) (by decide +kernel), List.mem_of_getElem? (i := 527) (by decide +kernel)⟩
theorem lw_p5 : lw_okq (⟨"FloorTurn", "refusalOfPiece", "(I)I"⟩, 7) := ⟨⟨by decide +kernel, by decide +kernel⟩, List.mem_of_getElem? (i := 18) (by decide +kernel), List.mem_of_getElem? (i := 534) (by decide +kernel), List.mem_of_getElem? (i := 535) (by decide +kernel)⟩
theorem lw_p6 : lw_okq (⟨"FloorTurn$Piece", "cellOf", "(III)I"⟩, 9) := ⟨⟨by decide +kernel, by decide +kernel⟩, List.mem_of_getElem? (i := 183) (by decide +kernel), List.mem_of_getElem? (i := 550) (by decide +kernel), List.mem_of_getElem? (i := 551) (by decide +kernel)⟩
theorem lw_p7 : lw_okq (⟨"FloorTurn$Piece", "turnedSide", "(II)I"⟩, 9) := ⟨⟨by decide +kernel, by decide +kernel⟩, List.mem_of_getElem? (i := 183) (by decide +kernel), List.mem_of_getElem? (i := 558) (by decide +kernel), List.mem_of_getElem? (i := 559) (by decide +kernel)⟩
theorem lw_p8 : lw_okq (⟨"FloorTurn$Part", "runClock", "()V"⟩, 17) := ⟨⟨by decide +kernel, by decide +kernel⟩, List.mem_of_getElem? (i := 52) (by decide +kernel), List.mem_of_getElem? (i := 579) (by decide +kernel), List.mem_of_getElem? (i := 580) (by decide +kernel)⟩
theorem lw_p9 : lw_okq (⟨"FloorTurn$Part", "runWork", "()V"⟩, 17) := ⟨⟨by decide +kernel, by decide +kernel⟩, List.mem_of_getElem? (i := 52) (by decide +kernel), List.mem_of_getElem? (i := 583) (by decide +kernel), List.mem_of_getElem? (i := 584) (by decide +kernel)⟩
theorem lw_p10 : lw_okq (⟨"FloorTurn$Part", "beginWork", "()V"⟩, 17) := ⟨⟨by decide +kernel, by decide +kernel⟩, List.mem_of_getElem? (i := 52) (by decide +kernel), List.mem_of_getElem? (i := 587) (by decide +kernel), List.mem_of_getElem? (i := 588) (by decide +kernel)⟩
theorem lw_p11 : lw_okq (⟨"FloorTurn$Floor", "offerThrough", "(II)V"⟩, 7) := ⟨⟨by decide +kernel, by decide +kernel⟩, List.mem_of_getElem? (i := 45) (by decide +kernel), List.mem_of_getElem? (i := 595) (by decide +kernel), List.mem_of_getElem? (i := 596) (by decide +kernel)⟩
theorem lw_p12 : lw_okq (⟨"FloorTurn$Floor", "bid", "(IIII)V"⟩, 7) := ⟨⟨by decide +kernel, by decide +kernel⟩, List.mem_of_getElem? (i := 45) (by decide +kernel), List.mem_of_getElem? (i := 602) (by decide +kernel), List.mem_of_getElem? (i := 603) (by decide +kernel)⟩
theorem lw_p13 : lw_okq (⟨"FloorTurn$Floor", "offerRound", "(ILFloorTurn$Part;)V"⟩, 7) := ⟨⟨by decide +kernel, by decide +kernel⟩, List.mem_of_getElem? (i := 45) (by decide +kernel), List.mem_of_getElem? (i := 609) (by decide +kernel), List.mem_of_getElem? (i := 610) (by decide +kernel)⟩
theorem lw_p14 : lw_okq (⟨"FloorTurn$Floor", "offerOver", "(III)Z"⟩, 7) := ⟨⟨by decide +kernel, by decide +kernel⟩, List.mem_of_getElem? (i := 45) (by decide +kernel), List.mem_of_getElem? (i := 617) (by decide +kernel), List.mem_of_getElem? (i := 618) (by decide +kernel)⟩
theorem lw_p15 : lw_okq (⟨"FloorTurn$Part", "hasRoomFor", "(I)Z"⟩, 17) := ⟨⟨by decide +kernel, by decide +kernel⟩, List.mem_of_getElem? (i := 52) (by decide +kernel), List.mem_of_getElem? (i := 626) (by decide +kernel), List.mem_of_getElem? (i := 627) (by decide +kernel)⟩
def lw_privs_1 : List (MethodName × Nat) := [(⟨"FloorTurn", "refuse", "(I)I"⟩, 7), (⟨"FloorTurn", "refusalToBuild", "(IIIII)I"⟩, 7), (⟨"FloorTurn", "refusalOfRow", "(I)I"⟩, 7), (⟨"FloorTurn", "canBuildFrom", "(LFloorTurn$Row;I)Z"⟩, 7), (⟨"FloorTurn$Piece", "keep", "(LFloorTurn$Part;II)V"⟩, 9), (⟨"FloorTurn", "refusalOfPiece", "(I)I"⟩, 7), (⟨"FloorTurn$Piece", "cellOf", "(III)I"⟩, 9), (⟨"FloorTurn$Piece", "turnedSide", "(II)I"⟩, 9), (⟨"FloorTurn$Part", "runClock", "()V"⟩, 17), (⟨"FloorTurn$Part", "runWork", "()V"⟩, 17), (⟨"FloorTurn$Part", "beginWork", "()V"⟩, 17), (⟨"FloorTurn$Floor", "offerThrough", "(II)V"⟩, 7), (⟨"FloorTurn$Floor", "bid", "(IIII)V"⟩, 7), (⟨"FloorTurn$Floor", "offerRound", "(ILFloorTurn$Part;)V"⟩, 7), (⟨"FloorTurn$Floor", "offerOver", "(III)Z"⟩, 7), (⟨"FloorTurn$Part", "hasRoomFor", "(I)Z"⟩, 17)]
theorem lw_r1 : ∀ q ∈ lw_privs_1, lw_okq q := List.forall_mem_cons.mpr ⟨lw_p0, List.forall_mem_cons.mpr ⟨lw_p1, List.forall_mem_cons.mpr ⟨lw_p2, List.forall_mem_cons.mpr ⟨lw_p3, List.forall_mem_cons.mpr ⟨lw_p4, List.forall_mem_cons.mpr ⟨lw_p5, List.forall_mem_cons.mpr ⟨lw_p6, List.forall_mem_cons.mpr ⟨lw_p7, List.forall_mem_cons.mpr ⟨lw_p8, List.forall_mem_cons.mpr ⟨lw_p9, List.forall_mem_cons.mpr ⟨lw_p10, List.forall_mem_cons.mpr ⟨lw_p11, List.forall_mem_cons.mpr ⟨lw_p12, List.forall_mem_cons.mpr ⟨lw_p13, List.forall_mem_cons.mpr ⟨lw_p14, List.forall_mem_cons.mpr ⟨lw_p15, fun _ h => absurd h List.not_mem_nil⟩⟩⟩⟩⟩⟩⟩⟩⟩⟩⟩⟩⟩⟩⟩⟩
theorem lw_p16 : lw_okq (⟨"FloorTurn$Floor", "moveTo", "(I)I"⟩, 7) := ⟨⟨by decide +kernel, by decide +kernel⟩, List.mem_of_getElem? (i := 45) (by decide +kernel), List.mem_of_getElem? (i := 630) (by decide +kernel), List.mem_of_getElem? (i := 631) (by decide +kernel)⟩
theorem lw_p17 : lw_okq (⟨"FloorTurn$Finder", "keepState", "(I)V"⟩, 11) := ⟨⟨by decide +kernel, by decide +kernel⟩, List.mem_of_getElem? (i := 231) (by decide +kernel), List.mem_of_getElem? (i := 658) (by decide +kernel), List.mem_of_getElem? (i := 659) (by decide +kernel)⟩
theorem lw_p18 : lw_okq (⟨"FloorTurn$Finder", "earlierLike", "(I)I"⟩, 11) := ⟨⟨by decide +kernel, by decide +kernel⟩, List.mem_of_getElem? (i := 231) (by decide +kernel), List.mem_of_getElem? (i := 668) (by decide +kernel), List.mem_of_getElem? (i := 669) (by decide +kernel)⟩
theorem lw_p19 : lw_okq (⟨"FloorTurn$Finder", "sameStates", "(II)Z"⟩, 11) := ⟨⟨by decide +kernel, by decide +kernel⟩, List.mem_of_getElem? (i := 231) (by decide +kernel), List.mem_of_getElem? (i := 672) (by decide +kernel), List.mem_of_getElem? (i := 673) (by decide +kernel)⟩
theorem lw_p20 : lw_okq (⟨"FloorTurn$Finder", "watchTickEnd", "()V"⟩, 11) := ⟨⟨by decide +kernel, by decide +kernel⟩, List.mem_of_getElem? (i := 231) (by decide +kernel), List.mem_of_getElem? (i := 681) (by decide +kernel), List.mem_of_getElem? (i := 682) (by decide +kernel)⟩
theorem lw_p21 : lw_okq (⟨"FloorTurn$Planner", "gatherNeeds", "(LFloorTurn$Book;)V"⟩, 4) := ⟨⟨by decide +kernel, by decide +kernel⟩, List.mem_of_getElem? (i := 292) (by decide +kernel), List.mem_of_getElem? (i := 727) (by decide +kernel), List.mem_of_getElem? (i := 728) (by decide +kernel)⟩
theorem lw_p22 : lw_okq (⟨"FloorTurn$Planner", "bitOf", "(I)I"⟩, 4) := ⟨⟨by decide +kernel, by decide +kernel⟩, List.mem_of_getElem? (i := 292) (by decide +kernel), List.mem_of_getElem? (i := 734) (by decide +kernel), List.mem_of_getElem? (i := 735) (by decide +kernel)⟩
theorem lw_p23 : lw_okq (⟨"FloorTurn$Planner", "hasBit", "(II)Z"⟩, 4) := ⟨⟨by decide +kernel, by decide +kernel⟩, List.mem_of_getElem? (i := 292) (by decide +kernel), List.mem_of_getElem? (i := 738) (by decide +kernel), List.mem_of_getElem? (i := 739) (by decide +kernel)⟩
theorem lw_p24 : lw_okq (⟨"FloorTurn$Planner", "needsItself", "(I)Z"⟩, 4) := ⟨⟨by decide +kernel, by decide +kernel⟩, List.mem_of_getElem? (i := 292) (by decide +kernel), List.mem_of_getElem? (i := 742) (by decide +kernel), List.mem_of_getElem? (i := 743) (by decide +kernel)⟩
theorem lw_p25 : lw_okq (⟨"FloorTurn$Planner", "spread", "(LFloorTurn$Book;I)I"⟩, 4) := ⟨⟨by decide +kernel, by decide +kernel⟩, List.mem_of_getElem? (i := 292) (by decide +kernel), List.mem_of_getElem? (i := 747) (by decide +kernel), List.mem_of_getElem? (i := 748) (by decide +kernel)⟩
theorem lw_p26 : lw_okq (⟨"FloorTurn$Planner", "unneeded", "(I)I"⟩, 4) := ⟨⟨by decide +kernel, by decide +kernel⟩, List.mem_of_getElem? (i := 292) (by decide +kernel), List.mem_of_getElem? (i := 751) (by decide +kernel), List.mem_of_getElem? (i := 752) (by decide +kernel)⟩
theorem lw_p27 : lw_okq (⟨"FloorTurn$Planner", "run", "(LFloorTurn$Recipe;)I"⟩, 4) := ⟨⟨by decide +kernel, by decide +kernel⟩, List.mem_of_getElem? (i := 292) (by decide +kernel), List.mem_of_getElem? (i := 756) (by decide +kernel), List.mem_of_getElem? (i := 757) (by decide +kernel)⟩
theorem lw_p28 : lw_okq (⟨"FloorTurn$Planner", "commonDivisor", "(JJ)J"⟩, 4) := ⟨⟨by decide +kernel, by decide +kernel⟩, List.mem_of_getElem? (i := 292) (by decide +kernel), List.mem_of_getElem? (i := 772) (by decide +kernel), List.mem_of_getElem? (i := 773) (by decide +kernel)⟩
theorem lw_p29 : lw_okq (⟨"FloorTurn$Router", "canGive", "(I)Z"⟩, 3) := ⟨⟨by decide +kernel, by decide +kernel⟩, List.mem_of_getElem? (i := 276) (by decide +kernel), List.mem_of_getElem? (i := 788) (by decide +kernel), List.mem_of_getElem? (i := 789) (by decide +kernel)⟩
theorem lw_p30 : lw_okq (⟨"FloorTurn$Router", "canTake", "(I)Z"⟩, 3) := ⟨⟨by decide +kernel, by decide +kernel⟩, List.mem_of_getElem? (i := 276) (by decide +kernel), List.mem_of_getElem? (i := 792) (by decide +kernel), List.mem_of_getElem? (i := 793) (by decide +kernel)⟩
theorem lw_p31 : lw_okq (⟨"FloorTurn$Router", "joined", "(LFloorTurn$Floor;II)Z"⟩, 3) := ⟨⟨by decide +kernel, by decide +kernel⟩, List.mem_of_getElem? (i := 276) (by decide +kernel), List.mem_of_getElem? (i := 796) (by decide +kernel), List.mem_of_getElem? (i := 797) (by decide +kernel)⟩
def lw_privs_2 : List (MethodName × Nat) := [(⟨"FloorTurn$Floor", "moveTo", "(I)I"⟩, 7), (⟨"FloorTurn$Finder", "keepState", "(I)V"⟩, 11), (⟨"FloorTurn$Finder", "earlierLike", "(I)I"⟩, 11), (⟨"FloorTurn$Finder", "sameStates", "(II)Z"⟩, 11), (⟨"FloorTurn$Finder", "watchTickEnd", "()V"⟩, 11), (⟨"FloorTurn$Planner", "gatherNeeds", "(LFloorTurn$Book;)V"⟩, 4), (⟨"FloorTurn$Planner", "bitOf", "(I)I"⟩, 4), (⟨"FloorTurn$Planner", "hasBit", "(II)Z"⟩, 4), (⟨"FloorTurn$Planner", "needsItself", "(I)Z"⟩, 4), (⟨"FloorTurn$Planner", "spread", "(LFloorTurn$Book;I)I"⟩, 4), (⟨"FloorTurn$Planner", "unneeded", "(I)I"⟩, 4), (⟨"FloorTurn$Planner", "run", "(LFloorTurn$Recipe;)I"⟩, 4), (⟨"FloorTurn$Planner", "commonDivisor", "(JJ)J"⟩, 4), (⟨"FloorTurn$Router", "canGive", "(I)Z"⟩, 3), (⟨"FloorTurn$Router", "canTake", "(I)Z"⟩, 3), (⟨"FloorTurn$Router", "joined", "(LFloorTurn$Floor;II)Z"⟩, 3)]
theorem lw_r2 : ∀ q ∈ lw_privs_2, lw_okq q := List.forall_mem_cons.mpr ⟨lw_p16, List.forall_mem_cons.mpr ⟨lw_p17, List.forall_mem_cons.mpr ⟨lw_p18, List.forall_mem_cons.mpr ⟨lw_p19, List.forall_mem_cons.mpr ⟨lw_p20, List.forall_mem_cons.mpr ⟨lw_p21, List.forall_mem_cons.mpr ⟨lw_p22, List.forall_mem_cons.mpr ⟨lw_p23, List.forall_mem_cons.mpr ⟨lw_p24, List.forall_mem_cons.mpr ⟨lw_p25, List.forall_mem_cons.mpr ⟨lw_p26, List.forall_mem_cons.mpr ⟨lw_p27, List.forall_mem_cons.mpr ⟨lw_p28, List.forall_mem_cons.mpr ⟨lw_p29, List.forall_mem_cons.mpr ⟨lw_p30, List.forall_mem_cons.mpr ⟨lw_p31, fun _ h => absurd h List.not_mem_nil⟩⟩⟩⟩⟩⟩⟩⟩⟩⟩⟩⟩⟩⟩⟩⟩
theorem lw_p32 : lw_okq (⟨"FloorTurn$Router", "measure", "(LFloorTurn$Floor;I)V"⟩, 3) := ⟨⟨by decide +kernel, by decide +kernel⟩, List.mem_of_getElem? (i := 276) (by decide +kernel), List.mem_of_getElem? (i := 803) (by decide +kernel), List.mem_of_getElem? (i := 804) (by decide +kernel)⟩
theorem lw_p33 : lw_okq (⟨"FloorTurn$Router", "reach", "(LFloorTurn$Floor;II)V"⟩, 3) := ⟨⟨by decide +kernel, by decide +kernel⟩, List.mem_of_getElem? (i := 276) (by decide +kernel), List.mem_of_getElem? (i := 808) (by decide +kernel), List.mem_of_getElem? (i := 809) (by decide +kernel)⟩
theorem lw_p34 : lw_okq (⟨"FloorTurn$Router", "beltsFrom", "(LFloorTurn$Floor;II)I"⟩, 3) := ⟨⟨by decide +kernel, by decide +kernel⟩, List.mem_of_getElem? (i := 276) (by decide +kernel), List.mem_of_getElem? (i := 812) (by decide +kernel), List.mem_of_getElem? (i := 813) (by decide +kernel)⟩
theorem lw_p35 : lw_okq (⟨"FloorTurn$Router", "firstOfWay", "(LFloorTurn$Floor;II)I"⟩, 3) := ⟨⟨by decide +kernel, by decide +kernel⟩, List.mem_of_getElem? (i := 276) (by decide +kernel), List.mem_of_getElem? (i := 824) (by decide +kernel), List.mem_of_getElem? (i := 825) (by decide +kernel)⟩
theorem lw_p36 : lw_okq (⟨"FloorTurn$Router", "sideTo", "(II)I"⟩, 3) := ⟨⟨by decide +kernel, by decide +kernel⟩, List.mem_of_getElem? (i := 276) (by decide +kernel), List.mem_of_getElem? (i := 828) (by decide +kernel), List.mem_of_getElem? (i := 829) (by decide +kernel)⟩
theorem lw_p37 : lw_okq (⟨"FloorTurn$Router", "sideToward", "(II)I"⟩, 3) := ⟨⟨by decide +kernel, by decide +kernel⟩, List.mem_of_getElem? (i := 276) (by decide +kernel), List.mem_of_getElem? (i := 832) (by decide +kernel), List.mem_of_getElem? (i := 833) (by decide +kernel)⟩
theorem lw_p38 : lw_okq (⟨"FloorTurnModel", "recipeOf", "(I)I"⟩, 51) := ⟨⟨by decide +kernel, by decide +kernel⟩, List.mem_of_getElem? (i := 857) (by decide +kernel), List.mem_of_getElem? (i := 1027) (by decide +kernel), List.mem_of_getElem? (i := 1028) (by decide +kernel)⟩
theorem lw_p39 : lw_okq (⟨"FloorTurnModel", "refuse", "(I)I"⟩, 51) := ⟨⟨by decide +kernel, by decide +kernel⟩, List.mem_of_getElem? (i := 857) (by decide +kernel), List.mem_of_getElem? (i := 1031) (by decide +kernel), List.mem_of_getElem? (i := 1032) (by decide +kernel)⟩
theorem lw_p40 : lw_okq (⟨"FloorTurnModel", "built", "(IIIII)I"⟩, 51) := ⟨⟨by decide +kernel, by decide +kernel⟩, List.mem_of_getElem? (i := 857) (by decide +kernel), List.mem_of_getElem? (i := 1039) (by decide +kernel), List.mem_of_getElem? (i := 1040) (by decide +kernel)⟩
theorem lw_p41 : lw_okq (⟨"FloorTurnModel", "lays", "(IIIII)V"⟩, 51) := ⟨⟨by decide +kernel, by decide +kernel⟩, List.mem_of_getElem? (i := 857) (by decide +kernel), List.mem_of_getElem? (i := 1049) (by decide +kernel), List.mem_of_getElem? (i := 1050) (by decide +kernel)⟩
theorem lw_p42 : lw_okq (⟨"FloorTurnModel", "rowless", "(I)I"⟩, 51) := ⟨⟨by decide +kernel, by decide +kernel⟩, List.mem_of_getElem? (i := 857) (by decide +kernel), List.mem_of_getElem? (i := 1068) (by decide +kernel), List.mem_of_getElem? (i := 1069) (by decide +kernel)⟩
theorem lw_p43 : lw_okq (⟨"FloorTurnModel", "isRow", "(I)Z"⟩, 51) := ⟨⟨by decide +kernel, by decide +kernel⟩, List.mem_of_getElem? (i := 857) (by decide +kernel), List.mem_of_getElem? (i := 1072) (by decide +kernel), List.mem_of_getElem? (i := 1073) (by decide +kernel)⟩
theorem lw_p44 : lw_okq (⟨"FloorTurnModel", "cell", "(II)I"⟩, 51) := ⟨⟨by decide +kernel, by decide +kernel⟩, List.mem_of_getElem? (i := 857) (by decide +kernel), List.mem_of_getElem? (i := 1099) (by decide +kernel), List.mem_of_getElem? (i := 1100) (by decide +kernel)⟩
theorem lw_p45 : lw_okq (⟨"FloorTurnModel", "parts", "(I)I"⟩, 51) := ⟨⟨by decide +kernel, by decide +kernel⟩, List.mem_of_getElem? (i := 857) (by decide +kernel), List.mem_of_getElem? (i := 1107) (by decide +kernel), List.mem_of_getElem? (i := 1108) (by decide +kernel)⟩
theorem lw_p46 : lw_okq (⟨"FloorTurnModel", "pieceless", "(I)I"⟩, 51) := ⟨⟨by decide +kernel, by decide +kernel⟩, List.mem_of_getElem? (i := 857) (by decide +kernel), List.mem_of_getElem? (i := 1115) (by decide +kernel), List.mem_of_getElem? (i := 1116) (by decide +kernel)⟩
theorem lw_p47 : lw_okq (⟨"FloorTurnModel", "placeOf", "(IIII)I"⟩, 51) := ⟨⟨by decide +kernel, by decide +kernel⟩, List.mem_of_getElem? (i := 857) (by decide +kernel), List.mem_of_getElem? (i := 1119) (by decide +kernel), List.mem_of_getElem? (i := 1120) (by decide +kernel)⟩
def lw_privs_3 : List (MethodName × Nat) := [(⟨"FloorTurn$Router", "measure", "(LFloorTurn$Floor;I)V"⟩, 3), (⟨"FloorTurn$Router", "reach", "(LFloorTurn$Floor;II)V"⟩, 3), (⟨"FloorTurn$Router", "beltsFrom", "(LFloorTurn$Floor;II)I"⟩, 3), (⟨"FloorTurn$Router", "firstOfWay", "(LFloorTurn$Floor;II)I"⟩, 3), (⟨"FloorTurn$Router", "sideTo", "(II)I"⟩, 3), (⟨"FloorTurn$Router", "sideToward", "(II)I"⟩, 3), (⟨"FloorTurnModel", "recipeOf", "(I)I"⟩, 51), (⟨"FloorTurnModel", "refuse", "(I)I"⟩, 51), (⟨"FloorTurnModel", "built", "(IIIII)I"⟩, 51), (⟨"FloorTurnModel", "lays", "(IIIII)V"⟩, 51), (⟨"FloorTurnModel", "rowless", "(I)I"⟩, 51), (⟨"FloorTurnModel", "isRow", "(I)Z"⟩, 51), (⟨"FloorTurnModel", "cell", "(II)I"⟩, 51), (⟨"FloorTurnModel", "parts", "(I)I"⟩, 51), (⟨"FloorTurnModel", "pieceless", "(I)I"⟩, 51), (⟨"FloorTurnModel", "placeOf", "(IIII)I"⟩, 51)]
theorem lw_r3 : ∀ q ∈ lw_privs_3, lw_okq q := List.forall_mem_cons.mpr ⟨lw_p32, List.forall_mem_cons.mpr ⟨lw_p33, List.forall_mem_cons.mpr ⟨lw_p34, List.forall_mem_cons.mpr ⟨lw_p35, List.forall_mem_cons.mpr ⟨lw_p36, List.forall_mem_cons.mpr ⟨lw_p37, List.forall_mem_cons.mpr ⟨lw_p38, List.forall_mem_cons.mpr ⟨lw_p39, List.forall_mem_cons.mpr ⟨lw_p40, List.forall_mem_cons.mpr ⟨lw_p41, List.forall_mem_cons.mpr ⟨lw_p42, List.forall_mem_cons.mpr ⟨lw_p43, List.forall_mem_cons.mpr ⟨lw_p44, List.forall_mem_cons.mpr ⟨lw_p45, List.forall_mem_cons.mpr ⟨lw_p46, List.forall_mem_cons.mpr ⟨lw_p47, fun _ h => absurd h List.not_mem_nil⟩⟩⟩⟩⟩⟩⟩⟩⟩⟩⟩⟩⟩⟩⟩⟩
theorem lw_p48 : lw_okq (⟨"FloorTurnModel", "measures", "()V"⟩, 51) := ⟨⟨by decide +kernel, by decide +kernel⟩, List.mem_of_getElem? (i := 857) (by decide +kernel), List.mem_of_getElem? (i := 1134) (by decide +kernel), List.mem_of_getElem? (i := 1135) (by decide +kernel)⟩
theorem lw_p49 : lw_okq (⟨"FloorTurnModel", "step", "(I)V"⟩, 51) := ⟨⟨by decide +kernel, by decide +kernel⟩, List.mem_of_getElem? (i := 857) (by decide +kernel), List.mem_of_getElem? (i := 1138) (by decide +kernel), List.mem_of_getElem? (i := 1139) (by decide +kernel)⟩
theorem lw_p50 : lw_okq (⟨"FloorTurnModel", "starts", "(II)V"⟩, 51) := ⟨⟨by decide +kernel, by decide +kernel⟩, List.mem_of_getElem? (i := 857) (by decide +kernel), List.mem_of_getElem? (i := 1142) (by decide +kernel), List.mem_of_getElem? (i := 1143) (by decide +kernel)⟩
theorem lw_p51 : lw_okq (⟨"FloorTurnModel", "offered", "(II)I"⟩, 51) := ⟨⟨by decide +kernel, by decide +kernel⟩, List.mem_of_getElem? (i := 857) (by decide +kernel), List.mem_of_getElem? (i := 1146) (by decide +kernel), List.mem_of_getElem? (i := 1147) (by decide +kernel)⟩
theorem lw_p52 : lw_okq (⟨"FloorTurnModel", "tunnels", "(III)V"⟩, 51) := ⟨⟨by decide +kernel, by decide +kernel⟩, List.mem_of_getElem? (i := 857) (by decide +kernel), List.mem_of_getElem? (i := 1150) (by decide +kernel), List.mem_of_getElem? (i := 1151) (by decide +kernel)⟩
theorem lw_p53 : lw_okq (⟨"FloorTurnModel", "takes", "(IIIII)Z"⟩, 51) := ⟨⟨by decide +kernel, by decide +kernel⟩, List.mem_of_getElem? (i := 857) (by decide +kernel), List.mem_of_getElem? (i := 1157) (by decide +kernel), List.mem_of_getElem? (i := 1158) (by decide +kernel)⟩
theorem lw_p54 : lw_okq (⟨"FloorTurnModel", "hasRoom", "(III)Z"⟩, 51) := ⟨⟨by decide +kernel, by decide +kernel⟩, List.mem_of_getElem? (i := 857) (by decide +kernel), List.mem_of_getElem? (i := 1161) (by decide +kernel), List.mem_of_getElem? (i := 1162) (by decide +kernel)⟩
theorem lw_p55 : lw_okq (⟨"FloorTurnModel", "offers", "(IIIII)V"⟩, 51) := ⟨⟨by decide +kernel, by decide +kernel⟩, List.mem_of_getElem? (i := 857) (by decide +kernel), List.mem_of_getElem? (i := 1165) (by decide +kernel), List.mem_of_getElem? (i := 1166) (by decide +kernel)⟩
theorem lw_p56 : lw_okq (⟨"FloorTurnModel", "leads", "(II)Z"⟩, 51) := ⟨⟨by decide +kernel, by decide +kernel⟩, List.mem_of_getElem? (i := 857) (by decide +kernel), List.mem_of_getElem? (i := 1169) (by decide +kernel), List.mem_of_getElem? (i := 1170) (by decide +kernel)⟩
theorem lw_p57 : lw_okq (⟨"FloorTurnModel", "gives", "(IIII)Z"⟩, 51) := ⟨⟨by decide +kernel, by decide +kernel⟩, List.mem_of_getElem? (i := 857) (by decide +kernel), List.mem_of_getElem? (i := 1173) (by decide +kernel), List.mem_of_getElem? (i := 1174) (by decide +kernel)⟩
theorem lw_p58 : lw_okq (⟨"FloorTurnModel", "lets", "(III)V"⟩, 51) := ⟨⟨by decide +kernel, by decide +kernel⟩, List.mem_of_getElem? (i := 857) (by decide +kernel), List.mem_of_getElem? (i := 1177) (by decide +kernel), List.mem_of_getElem? (i := 1178) (by decide +kernel)⟩
theorem lw_p59 : lw_okq (⟨"FloorTurnModel", "gets", "(III)V"⟩, 51) := ⟨⟨by decide +kernel, by decide +kernel⟩, List.mem_of_getElem? (i := 857) (by decide +kernel), List.mem_of_getElem? (i := 1181) (by decide +kernel), List.mem_of_getElem? (i := 1182) (by decide +kernel)⟩
theorem lw_p60 : lw_okq (⟨"FloorTurnModel", "findLength", "(I)I"⟩, 51) := ⟨⟨by decide +kernel, by decide +kernel⟩, List.mem_of_getElem? (i := 857) (by decide +kernel), List.mem_of_getElem? (i := 1189) (by decide +kernel), List.mem_of_getElem? (i := 1190) (by decide +kernel)⟩
theorem lw_p61 : lw_okq (⟨"FloorTurnModel", "copies", "(II)V"⟩, 51) := ⟨⟨by decide +kernel, by decide +kernel⟩, List.mem_of_getElem? (i := 857) (by decide +kernel), List.mem_of_getElem? (i := 1193) (by decide +kernel), List.mem_of_getElem? (i := 1194) (by decide +kernel)⟩
theorem lw_p62 : lw_okq (⟨"FloorTurnModel", "areOne", "(II)Z"⟩, 51) := ⟨⟨by decide +kernel, by decide +kernel⟩, List.mem_of_getElem? (i := 857) (by decide +kernel), List.mem_of_getElem? (i := 1197) (by decide +kernel), List.mem_of_getElem? (i := 1198) (by decide +kernel)⟩
theorem lw_p63 : lw_okq (⟨"FloorTurnModel", "findFirst", "(II)I"⟩, 51) := ⟨⟨by decide +kernel, by decide +kernel⟩, List.mem_of_getElem? (i := 857) (by decide +kernel), List.mem_of_getElem? (i := 1201) (by decide +kernel), List.mem_of_getElem? (i := 1202) (by decide +kernel)⟩
def lw_privs_4 : List (MethodName × Nat) := [(⟨"FloorTurnModel", "measures", "()V"⟩, 51), (⟨"FloorTurnModel", "step", "(I)V"⟩, 51), (⟨"FloorTurnModel", "starts", "(II)V"⟩, 51), (⟨"FloorTurnModel", "offered", "(II)I"⟩, 51), (⟨"FloorTurnModel", "tunnels", "(III)V"⟩, 51), (⟨"FloorTurnModel", "takes", "(IIIII)Z"⟩, 51), (⟨"FloorTurnModel", "hasRoom", "(III)Z"⟩, 51), (⟨"FloorTurnModel", "offers", "(IIIII)V"⟩, 51), (⟨"FloorTurnModel", "leads", "(II)Z"⟩, 51), (⟨"FloorTurnModel", "gives", "(IIII)Z"⟩, 51), (⟨"FloorTurnModel", "lets", "(III)V"⟩, 51), (⟨"FloorTurnModel", "gets", "(III)V"⟩, 51), (⟨"FloorTurnModel", "findLength", "(I)I"⟩, 51), (⟨"FloorTurnModel", "copies", "(II)V"⟩, 51), (⟨"FloorTurnModel", "areOne", "(II)Z"⟩, 51), (⟨"FloorTurnModel", "findFirst", "(II)I"⟩, 51)]
theorem lw_r4 : ∀ q ∈ lw_privs_4, lw_okq q := List.forall_mem_cons.mpr ⟨lw_p48, List.forall_mem_cons.mpr ⟨lw_p49, List.forall_mem_cons.mpr ⟨lw_p50, List.forall_mem_cons.mpr ⟨lw_p51, List.forall_mem_cons.mpr ⟨lw_p52, List.forall_mem_cons.mpr ⟨lw_p53, List.forall_mem_cons.mpr ⟨lw_p54, List.forall_mem_cons.mpr ⟨lw_p55, List.forall_mem_cons.mpr ⟨lw_p56, List.forall_mem_cons.mpr ⟨lw_p57, List.forall_mem_cons.mpr ⟨lw_p58, List.forall_mem_cons.mpr ⟨lw_p59, List.forall_mem_cons.mpr ⟨lw_p60, List.forall_mem_cons.mpr ⟨lw_p61, List.forall_mem_cons.mpr ⟨lw_p62, List.forall_mem_cons.mpr ⟨lw_p63, fun _ h => absurd h List.not_mem_nil⟩⟩⟩⟩⟩⟩⟩⟩⟩⟩⟩⟩⟩⟩⟩⟩
theorem lw_p64 : lw_okq (⟨"FloorTurnModel", "goes", "(I)V"⟩, 51) := ⟨⟨by decide +kernel, by decide +kernel⟩, List.mem_of_getElem? (i := 857) (by decide +kernel), List.mem_of_getElem? (i := 1205) (by decide +kernel), List.mem_of_getElem? (i := 1206) (by decide +kernel)⟩
theorem lw_p65 : lw_okq (⟨"FloorTurnModel", "powers", "()I"⟩, 51) := ⟨⟨by decide +kernel, by decide +kernel⟩, List.mem_of_getElem? (i := 857) (by decide +kernel), List.mem_of_getElem? (i := 1209) (by decide +kernel), List.mem_of_getElem? (i := 1210) (by decide +kernel)⟩
theorem lw_p66 : lw_okq (⟨"FloorTurnModel", "neededFor", "(I)I"⟩, 51) := ⟨⟨by decide +kernel, by decide +kernel⟩, List.mem_of_getElem? (i := 857) (by decide +kernel), List.mem_of_getElem? (i := 1233) (by decide +kernel), List.mem_of_getElem? (i := 1234) (by decide +kernel)⟩
theorem lw_p67 : lw_okq (⟨"FloorTurnModel", "wants", "(IJJ)V"⟩, 51) := ⟨⟨by decide +kernel, by decide +kernel⟩, List.mem_of_getElem? (i := 857) (by decide +kernel), List.mem_of_getElem? (i := 1237) (by decide +kernel), List.mem_of_getElem? (i := 1238) (by decide +kernel)⟩
theorem lw_p68 : lw_okq (⟨"FloorTurnModel", "free", "(II)I"⟩, 51) := ⟨⟨by decide +kernel, by decide +kernel⟩, List.mem_of_getElem? (i := 857) (by decide +kernel), List.mem_of_getElem? (i := 1244) (by decide +kernel), List.mem_of_getElem? (i := 1245) (by decide +kernel)⟩
theorem lw_p69 : lw_okq (⟨"FloorTurnModel", "findPath", "(II)I"⟩, 51) := ⟨⟨by decide +kernel, by decide +kernel⟩, List.mem_of_getElem? (i := 857) (by decide +kernel), List.mem_of_getElem? (i := 1260) (by decide +kernel), List.mem_of_getElem? (i := 1261) (by decide +kernel)⟩
theorem lw_p70 : lw_okq (⟨"FloorTurnModel", "mayGive", "(I)Z"⟩, 51) := ⟨⟨by decide +kernel, by decide +kernel⟩, List.mem_of_getElem? (i := 857) (by decide +kernel), List.mem_of_getElem? (i := 1264) (by decide +kernel), List.mem_of_getElem? (i := 1265) (by decide +kernel)⟩
theorem lw_p71 : lw_okq (⟨"FloorTurnModel", "mayTake", "(I)Z"⟩, 51) := ⟨⟨by decide +kernel, by decide +kernel⟩, List.mem_of_getElem? (i := 857) (by decide +kernel), List.mem_of_getElem? (i := 1268) (by decide +kernel), List.mem_of_getElem? (i := 1269) (by decide +kernel)⟩
theorem lw_p72 : lw_okq (⟨"FloorTurnModel", "findFar", "(I)V"⟩, 51) := ⟨⟨by decide +kernel, by decide +kernel⟩, List.mem_of_getElem? (i := 857) (by decide +kernel), List.mem_of_getElem? (i := 1272) (by decide +kernel), List.mem_of_getElem? (i := 1273) (by decide +kernel)⟩
theorem lw_p73 : lw_okq (⟨"FloorTurnModel", "spreads", "(II)Z"⟩, 51) := ⟨⟨by decide +kernel, by decide +kernel⟩, List.mem_of_getElem? (i := 857) (by decide +kernel), List.mem_of_getElem? (i := 1276) (by decide +kernel), List.mem_of_getElem? (i := 1277) (by decide +kernel)⟩
theorem lw_p74 : lw_okq (⟨"FloorTurnModel", "sideOn", "(IIIZ)I"⟩, 51) := ⟨⟨by decide +kernel, by decide +kernel⟩, List.mem_of_getElem? (i := 857) (by decide +kernel), List.mem_of_getElem? (i := 1284) (by decide +kernel), List.mem_of_getElem? (i := 1285) (by decide +kernel)⟩
theorem lw_p75 : lw_okq (⟨"FloorTurnModel", "items", "()I"⟩, 51) := ⟨⟨by decide +kernel, by decide +kernel⟩, List.mem_of_getElem? (i := 857) (by decide +kernel), List.mem_of_getElem? (i := 1292) (by decide +kernel), List.mem_of_getElem? (i := 1293) (by decide +kernel)⟩
def lw_privs_5 : List (MethodName × Nat) := [(⟨"FloorTurnModel", "goes", "(I)V"⟩, 51), (⟨"FloorTurnModel", "powers", "()I"⟩, 51), (⟨"FloorTurnModel", "neededFor", "(I)I"⟩, 51), (⟨"FloorTurnModel", "wants", "(IJJ)V"⟩, 51), (⟨"FloorTurnModel", "free", "(II)I"⟩, 51), (⟨"FloorTurnModel", "findPath", "(II)I"⟩, 51), (⟨"FloorTurnModel", "mayGive", "(I)Z"⟩, 51), (⟨"FloorTurnModel", "mayTake", "(I)Z"⟩, 51), (⟨"FloorTurnModel", "findFar", "(I)V"⟩, 51), (⟨"FloorTurnModel", "spreads", "(II)Z"⟩, 51), (⟨"FloorTurnModel", "sideOn", "(IIIZ)I"⟩, 51), (⟨"FloorTurnModel", "items", "()I"⟩, 51)]
theorem lw_r5 : ∀ q ∈ lw_privs_5, lw_okq q := List.forall_mem_cons.mpr ⟨lw_p64, List.forall_mem_cons.mpr ⟨lw_p65, List.forall_mem_cons.mpr ⟨lw_p66, List.forall_mem_cons.mpr ⟨lw_p67, List.forall_mem_cons.mpr ⟨lw_p68, List.forall_mem_cons.mpr ⟨lw_p69, List.forall_mem_cons.mpr ⟨lw_p70, List.forall_mem_cons.mpr ⟨lw_p71, List.forall_mem_cons.mpr ⟨lw_p72, List.forall_mem_cons.mpr ⟨lw_p73, List.forall_mem_cons.mpr ⟨lw_p74, List.forall_mem_cons.mpr ⟨lw_p75, fun _ h => absurd h List.not_mem_nil⟩⟩⟩⟩⟩⟩⟩⟩⟩⟩⟩⟩
def lw_privs : List (MethodName × Nat) := lw_privs_1 ++ (lw_privs_2 ++ (lw_privs_3 ++ (lw_privs_4 ++ (lw_privs_5))))
def lw_tbl : List Cond := k2_sels lw_privs ++ tables_1
theorem lw_privs_ok : ∀ q ∈ lw_privs, lw_okq q := by
  show ∀ q ∈ lw_privs_1 ++ (lw_privs_2 ++ (lw_privs_3 ++ (lw_privs_4 ++ (lw_privs_5)))), lw_okq q
  exact List.forall_mem_append.mpr ⟨lw_r1, List.forall_mem_append.mpr ⟨lw_r2, List.forall_mem_append.mpr ⟨lw_r3, List.forall_mem_append.mpr ⟨lw_r4, lw_r5⟩⟩⟩⟩
def RX0 : String := "FloorTurn$Book"
def TX0 : u_T := fun k => match k with
  | 0 => ("FloorTurn$Book", "recipes", "[LFloorTurn$Recipe;", true)
  | _ => ("FloorTurn$Book", "count", "I", false)
def tyX0 : Nat → FieldType := fun k => match k with
  | 0 => .array (.object "FloorTurn$Recipe")
  | _ => .int
abbrev wsX00 : List Cond := u_ws RX0 TX0 2
theorem nmX0 : ∀ a, a < 2 → ∀ b, b < 2 → a ≠ b → (TX0 a).2.1 ≠ (TX0 b).2.1 := by decide +kernel
theorem tyX0_ok : ∀ k, k < 2 → parseFieldDescriptor (TX0 k).2.2.1 = some (tyX0 k) := by decide +kernel
def RX1 : String := "FloorTurn$Finder"
def TX1 : u_T := fun k => match k with
  | 0 => ("FloorTurn$Finder", "ghost", "LFloorTurn$Floor;", true)
  | 1 => ("FloorTurn$Finder", "states", "[J", true)
  | 2 => ("FloorTurn$Finder", "marks", "[J", true)
  | 3 => ("FloorTurn$Finder", "stuck", "[Z", true)
  | 4 => ("FloorTurn$Finder", "starved", "[Z", true)
  | 5 => ("FloorTurn$Finder", "found", "Z", false)
  | 6 => ("FloorTurn$Finder", "first", "I", false)
  | 7 => ("FloorTurn$Finder", "length", "I", false)
  | 8 => ("FloorTurn$Finder", "came", "I", false)
  | 9 => ("FloorTurn$Finder", "power", "I", false)
  | _ => ("FloorTurn$Finder", "still", "Z", false)
def tyX1 : Nat → FieldType := fun k => match k with
  | 0 => .object "FloorTurn$Floor"
  | 1 => .array .long
  | 2 => .array .long
  | 3 => .array .boolean
  | 4 => .array .boolean
  | 5 => .boolean
  | 6 => .int
  | 7 => .int
  | 8 => .int
  | 9 => .int
  | _ => .boolean
abbrev wsX10 : List Cond := u_ws RX1 TX1 11
theorem nmX1 : ∀ a, a < 11 → ∀ b, b < 11 → a ≠ b → (TX1 a).2.1 ≠ (TX1 b).2.1 := by decide +kernel
theorem tyX1_ok : ∀ k, k < 11 → parseFieldDescriptor (TX1 k).2.2.1 = some (tyX1 k) := by decide +kernel
def RX2 : String := "FloorTurn$Floor"
def TX2 : u_T := fun k => match k with
  | 0 => ("FloorTurn$Floor", "book", "LFloorTurn$Book;", true)
  | 1 => ("FloorTurn$Floor", "parts", "[LFloorTurn$Part;", true)
  | 2 => ("FloorTurn$Floor", "sunk", "[I", true)
  | 3 => ("FloorTurn$Floor", "ticks", "I", false)
  | 4 => ("FloorTurn$Floor", "giver", "[I", true)
  | 5 => ("FloorTurn$Floor", "giverSide", "[I", true)
  | _ => ("FloorTurn$Floor", "giverRank", "[I", true)
def tyX2 : Nat → FieldType := fun k => match k with
  | 0 => .object "FloorTurn$Book"
  | 1 => .array (.object "FloorTurn$Part")
  | 2 => .array .int
  | 3 => .int
  | 4 => .array .int
  | 5 => .array .int
  | _ => .array .int
abbrev wsX20 : List Cond := u_ws RX2 TX2 7
theorem nmX2 : ∀ a, a < 7 → ∀ b, b < 7 → a ≠ b → (TX2 a).2.1 ≠ (TX2 b).2.1 := by decide +kernel
theorem tyX2_ok : ∀ k, k < 7 → parseFieldDescriptor (TX2 k).2.2.1 = some (tyX2 k) := by decide +kernel
def RX3 : String := "FloorTurn$Part"
def TX3 : u_T := fun k => match k with
  | 0 => ("FloorTurn$Part", "kind", "I", false)
  | 1 => ("FloorTurn$Part", "side", "I", false)
  | 2 => ("FloorTurn$Part", "arg", "I", false)
  | 3 => ("FloorTurn$Part", "period", "I", false)
  | 4 => ("FloorTurn$Part", "recipe", "LFloorTurn$Recipe;", false)
  | 5 => ("FloorTurn$Part", "item", "I", false)
  | 6 => ("FloorTurn$Part", "clock", "I", false)
  | 7 => ("FloorTurn$Part", "store1", "I", false)
  | 8 => ("FloorTurn$Part", "store2", "I", false)
  | 9 => ("FloorTurn$Part", "made", "I", false)
  | 10 => ("FloorTurn$Part", "work", "I", false)
  | 11 => ("FloorTurn$Part", "works", "Z", false)
  | 12 => ("FloorTurn$Part", "took", "I", false)
  | 13 => ("FloorTurn$Part", "gave", "I", false)
  | 14 => ("FloorTurn$Part", "taken", "I", false)
  | 15 => ("FloorTurn$Part", "given", "I", false)
  | _ => ("FloorTurn$Part", "ended", "I", false)
def tyX3 : Nat → FieldType := fun k => match k with
  | 0 => .int
  | 1 => .int
  | 2 => .int
  | 3 => .int
  | 4 => .object "FloorTurn$Recipe"
  | 5 => .int
  | 6 => .int
  | 7 => .int
  | 8 => .int
  | 9 => .int
  | 10 => .int
  | 11 => .boolean
  | 12 => .int
  | 13 => .int
  | 14 => .int
  | 15 => .int
  | _ => .int
abbrev wsX30 : List Cond := u_ws RX3 TX3 17
theorem nmX3 : ∀ a, a < 17 → ∀ b, b < 17 → a ≠ b → (TX3 a).2.1 ≠ (TX3 b).2.1 := by decide +kernel
theorem tyX3_ok : ∀ k, k < 17 → parseFieldDescriptor (TX3 k).2.2.1 = some (tyX3 k) := by decide +kernel
def RX4 : String := "FloorTurn$Piece"
def TX4 : u_T := fun k => match k with
  | 0 => ("FloorTurn$Piece", "xs", "[I", true)
  | 1 => ("FloorTurn$Piece", "ys", "[I", true)
  | 2 => ("FloorTurn$Piece", "kinds", "[I", true)
  | 3 => ("FloorTurn$Piece", "sides", "[I", true)
  | 4 => ("FloorTurn$Piece", "args", "[I", true)
  | 5 => ("FloorTurn$Piece", "periods", "[I", true)
  | 6 => ("FloorTurn$Piece", "width", "I", false)
  | 7 => ("FloorTurn$Piece", "height", "I", false)
  | _ => ("FloorTurn$Piece", "count", "I", false)
def tyX4 : Nat → FieldType := fun k => match k with
  | 0 => .array .int
  | 1 => .array .int
  | 2 => .array .int
  | 3 => .array .int
  | 4 => .array .int
  | 5 => .array .int
  | 6 => .int
  | 7 => .int
  | _ => .int
abbrev wsX40 : List Cond := u_ws RX4 TX4 9
theorem nmX4 : ∀ a, a < 9 → ∀ b, b < 9 → a ≠ b → (TX4 a).2.1 ≠ (TX4 b).2.1 := by decide +kernel
theorem tyX4_ok : ∀ k, k < 9 → parseFieldDescriptor (TX4 k).2.2.1 = some (tyX4 k) := by decide +kernel
def RX5 : String := "FloorTurn$Planner"
def TX5 : u_T := fun k => match k with
  | 0 => ("FloorTurn$Planner", "machines", "[I", true)
  | 1 => ("FloorTurn$Planner", "tops", "[J", true)
  | 2 => ("FloorTurn$Planner", "needs", "[I", true)
  | _ => ("FloorTurn$Planner", "bottom", "J", false)
def tyX5 : Nat → FieldType := fun k => match k with
  | 0 => .array .int
  | 1 => .array .long
  | 2 => .array .int
  | _ => .long
abbrev wsX50 : List Cond := u_ws RX5 TX5 4
theorem nmX5 : ∀ a, a < 4 → ∀ b, b < 4 → a ≠ b → (TX5 a).2.1 ≠ (TX5 b).2.1 := by decide +kernel
theorem tyX5_ok : ∀ k, k < 4 → parseFieldDescriptor (TX5 k).2.2.1 = some (tyX5 k) := by decide +kernel
def RX6 : String := "FloorTurn$Recipe"
def TX6 : u_T := fun k => match k with
  | 0 => ("FloorTurn$Recipe", "item", "I", true)
  | 1 => ("FloorTurn$Recipe", "makes", "I", true)
  | 2 => ("FloorTurn$Recipe", "ticks", "I", true)
  | 3 => ("FloorTurn$Recipe", "power", "I", true)
  | 4 => ("FloorTurn$Recipe", "need1", "I", false)
  | 5 => ("FloorTurn$Recipe", "n1", "I", false)
  | 6 => ("FloorTurn$Recipe", "need2", "I", false)
  | _ => ("FloorTurn$Recipe", "n2", "I", false)
def tyX6 : Nat → FieldType := fun k => match k with
  | 0 => .int
  | 1 => .int
  | 2 => .int
  | 3 => .int
  | 4 => .int
  | 5 => .int
  | 6 => .int
  | _ => .int
abbrev wsX60 : List Cond := u_ws RX6 TX6 8
theorem nmX6 : ∀ a, a < 8 → ∀ b, b < 8 → a ≠ b → (TX6 a).2.1 ≠ (TX6 b).2.1 := by decide +kernel
theorem tyX6_ok : ∀ k, k < 8 → parseFieldDescriptor (TX6 k).2.2.1 = some (tyX6 k) := by decide +kernel
def RX7 : String := "FloorTurn$Router"
def TX7 : u_T := fun k => match k with
  | 0 => ("FloorTurn$Router", "distance", "[I", true)
  | 1 => ("FloorTurn$Router", "queue", "[I", true)
  | _ => ("FloorTurn$Router", "queued", "I", false)
def tyX7 : Nat → FieldType := fun k => match k with
  | 0 => .array .int
  | 1 => .array .int
  | _ => .int
abbrev wsX70 : List Cond := u_ws RX7 TX7 3
theorem nmX7 : ∀ a, a < 3 → ∀ b, b < 3 → a ≠ b → (TX7 a).2.1 ≠ (TX7 b).2.1 := by decide +kernel
theorem tyX7_ok : ∀ k, k < 3 → parseFieldDescriptor (TX7 k).2.2.1 = some (tyX7 k) := by decide +kernel
def RX8 : String := "FloorTurn$Row"
def TX8 : u_T := fun k => match k with
  | 0 => ("FloorTurn$Row", "elements", "[J", true)
  | 1 => ("FloorTurn$Row", "sort", "I", false)
  | _ => ("FloorTurn$Row", "size", "I", false)
def tyX8 : Nat → FieldType := fun k => match k with
  | 0 => .array .long
  | 1 => .int
  | _ => .int
abbrev wsX80 : List Cond := u_ws RX8 TX8 3
theorem nmX8 : ∀ a, a < 3 → ∀ b, b < 3 → a ≠ b → (TX8 a).2.1 ≠ (TX8 b).2.1 := by decide +kernel
theorem tyX8_ok : ∀ k, k < 3 → parseFieldDescriptor (TX8 k).2.2.1 = some (tyX8 k) := by decide +kernel
def RX9 : String := "FloorTurn$Shelf"
def TX9 : u_T := fun k => match k with
  | 0 => ("FloorTurn$Shelf", "row", "LFloorTurn$Row;", true)
  | 1 => ("FloorTurn$Shelf", "piece", "LFloorTurn$Piece;", true)
  | _ => ("FloorTurn$Shelf", "state", "I", false)
def tyX9 : Nat → FieldType := fun k => match k with
  | 0 => .object "FloorTurn$Row"
  | 1 => .object "FloorTurn$Piece"
  | _ => .int
abbrev wsX90 : List Cond := u_ws RX9 TX9 3
theorem nmX9 : ∀ a, a < 3 → ∀ b, b < 3 → a ≠ b → (TX9 a).2.1 ≠ (TX9 b).2.1 := by decide +kernel
theorem tyX9_ok : ∀ k, k < 3 → parseFieldDescriptor (TX9 k).2.2.1 = some (tyX9 k) := by decide +kernel
def RX10 : String := "FloorTurn"
def TX10 : u_T := fun k => match k with
  | 0 => ("FloorTurn", "refusals", "[I", true)
  | 1 => ("FloorTurn", "book", "LFloorTurn$Book;", true)
  | 2 => ("FloorTurn", "floor", "LFloorTurn$Floor;", true)
  | 3 => ("FloorTurn", "shelves", "[LFloorTurn$Shelf;", true)
  | 4 => ("FloorTurn", "finder", "LFloorTurn$Finder;", true)
  | 5 => ("FloorTurn", "router", "LFloorTurn$Router;", true)
  | _ => ("FloorTurn", "planner", "LFloorTurn$Planner;", true)
def tyX10 : Nat → FieldType := fun k => match k with
  | 0 => .array .int
  | 1 => .object "FloorTurn$Book"
  | 2 => .object "FloorTurn$Floor"
  | 3 => .array (.object "FloorTurn$Shelf")
  | 4 => .object "FloorTurn$Finder"
  | 5 => .object "FloorTurn$Router"
  | _ => .object "FloorTurn$Planner"
abbrev wsX100 : List Cond := u_ws RX10 TX10 7
theorem nmX10 : ∀ a, a < 7 → ∀ b, b < 7 → a ≠ b → (TX10 a).2.1 ≠ (TX10 b).2.1 := by decide +kernel
theorem tyX10_ok : ∀ k, k < 7 → parseFieldDescriptor (TX10 k).2.2.1 = some (tyX10 k) := by decide +kernel
def RX11 : String := "FloorTurnModel"
def TX11 : u_T := fun k => match k with
  | 0 => ("FloorTurnModel", "refusals", "[I", true)
  | 1 => ("FloorTurnModel", "recipes", "I", false)
  | 2 => ("FloorTurnModel", "makes", "[I", true)
  | 3 => ("FloorTurnModel", "what", "[I", true)
  | 4 => ("FloorTurnModel", "ticks", "[I", true)
  | 5 => ("FloorTurnModel", "need", "[I", true)
  | 6 => ("FloorTurnModel", "needs", "[I", true)
  | 7 => ("FloorTurnModel", "power", "[I", true)
  | 8 => ("FloorTurnModel", "kind", "[I", true)
  | 9 => ("FloorTurnModel", "side", "[I", true)
  | 10 => ("FloorTurnModel", "arg", "[I", true)
  | 11 => ("FloorTurnModel", "period", "[I", true)
  | 12 => ("FloorTurnModel", "tookEver", "[I", true)
  | 13 => ("FloorTurnModel", "gaveEver", "[I", true)
  | 14 => ("FloorTurnModel", "ticked", "I", false)
  | 15 => ("FloorTurnModel", "sunk", "[I", true)
  | 16 => ("FloorTurnModel", "item", "[I", true)
  | 17 => ("FloorTurnModel", "clock", "[I", true)
  | 18 => ("FloorTurnModel", "made", "[I", true)
  | 19 => ("FloorTurnModel", "work", "[I", true)
  | 20 => ("FloorTurnModel", "works", "[Z", true)
  | 21 => ("FloorTurnModel", "store", "[I", true)
  | 22 => ("FloorTurnModel", "took", "[I", true)
  | 23 => ("FloorTurnModel", "gave", "[I", true)
  | 24 => ("FloorTurnModel", "shelf", "[I", true)
  | 25 => ("FloorTurnModel", "size", "[I", true)
  | 26 => ("FloorTurnModel", "cells", "[J", true)
  | 27 => ("FloorTurnModel", "moved", "[J", true)
  | 28 => ("FloorTurnModel", "wide", "[I", true)
  | 29 => ("FloorTurnModel", "high", "[I", true)
  | 30 => ("FloorTurnModel", "piece", "[I", true)
  | 31 => ("FloorTurnModel", "giver", "[I", true)
  | 32 => ("FloorTurnModel", "rank", "[I", true)
  | 33 => ("FloorTurnModel", "from", "[I", true)
  | 34 => ("FloorTurnModel", "moves", "[I", true)
  | 35 => ("FloorTurnModel", "sinks", "I", false)
  | 36 => ("FloorTurnModel", "isMoving", "Z", false)
  | 37 => ("FloorTurnModel", "tookNow", "[I", true)
  | 38 => ("FloorTurnModel", "gaveNow", "[I", true)
  | 39 => ("FloorTurnModel", "endedNow", "[I", true)
  | 40 => ("FloorTurnModel", "hasTurn", "Z", false)
  | 41 => ("FloorTurnModel", "turned", "[I", true)
  | 42 => ("FloorTurnModel", "cellTurn", "[I", true)
  | 43 => ("FloorTurnModel", "wasThere", "[Z", true)
  | 44 => ("FloorTurnModel", "up", "[J", true)
  | 45 => ("FloorTurnModel", "down", "[J", true)
  | 46 => ("FloorTurnModel", "tryUp", "[J", true)
  | 47 => ("FloorTurnModel", "tryDown", "[J", true)
  | 48 => ("FloorTurnModel", "wanted", "[I", true)
  | 49 => ("FloorTurnModel", "tryWanted", "[I", true)
  | _ => ("FloorTurnModel", "far", "[I", true)
def tyX11 : Nat → FieldType := fun k => match k with
  | 0 => .array .int
  | 1 => .int
  | 2 => .array .int
  | 3 => .array .int
  | 4 => .array .int
  | 5 => .array .int
  | 6 => .array .int
  | 7 => .array .int
  | 8 => .array .int
  | 9 => .array .int
  | 10 => .array .int
  | 11 => .array .int
  | 12 => .array .int
  | 13 => .array .int
  | 14 => .int
  | 15 => .array .int
  | 16 => .array .int
  | 17 => .array .int
  | 18 => .array .int
  | 19 => .array .int
  | 20 => .array .boolean
  | 21 => .array .int
  | 22 => .array .int
  | 23 => .array .int
  | 24 => .array .int
  | 25 => .array .int
  | 26 => .array .long
  | 27 => .array .long
  | 28 => .array .int
  | 29 => .array .int
  | 30 => .array .int
  | 31 => .array .int
  | 32 => .array .int
  | 33 => .array .int
  | 34 => .array .int
  | 35 => .int
  | 36 => .boolean
  | 37 => .array .int
  | 38 => .array .int
  | 39 => .array .int
  | 40 => .boolean
  | 41 => .array .int
  | 42 => .array .int
  | 43 => .array .boolean
  | 44 => .array .long
  | 45 => .array .long
  | 46 => .array .long
  | 47 => .array .long
  | 48 => .array .int
  | 49 => .array .int
  | _ => .array .int
abbrev wsX110 : List Cond := u_ws RX11 TX11 51
theorem nmX11 : ∀ a, a < 51 → ∀ b, b < 51 → a ≠ b → (TX11 a).2.1 ≠ (TX11 b).2.1 := by decide +kernel
theorem tyX11_ok : ∀ k, k < 51 → parseFieldDescriptor (TX11 k).2.2.1 = some (tyX11 k) := by decide +kernel
abbrev vwCl : List vw_C := [(RX0, TX0, 2), (RX1, TX1, 11), (RX2, TX2, 7), (RX3, TX3, 17), (RX4, TX4, 9), (RX5, TX5, 4), (RX6, TX6, 8), (RX7, TX7, 3), (RX8, TX8, 3), (RX9, TX9, 3), (RX10, TX10, 7), (RX11, TX11, 51)]
