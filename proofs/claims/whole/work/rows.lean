section
-- ===== PART A: goes FIRST, ahead of the names: the tables' words, and 'selects' of the private methods out of them =====
/-- a private method of a class that the tables say can be made, by its rows of tables_1 -/
def lw_okq (q : MethodName × Nat) : Prop := (q.1.cls ≠ "java/lang/invoke/MethodHandle" ∧ q.1.cls ≠ "java/lang/invoke/VarHandle") ∧ Cond.instantiable q.1.cls q.2 ∈ tables_1 ∧ Cond.privateMethod q.1 ∈ tables_1 ∧ Cond.instanceMethod q.1 ∈ tables_1
theorem lw_p0 : lw_okq (⟨"PegCourt", "startAnew", "(II)V"⟩, 12) := ⟨⟨by decide +kernel, by decide +kernel⟩, List.mem_of_getElem? (i := 24) (by decide +kernel), List.mem_of_getElem? (i := 423) (by decide +kernel), List.mem_of_getElem? (i := 424) (by decide +kernel)⟩
theorem lw_p1 : lw_okq (⟨"PegCourt$CodeBook", "write", "(II)V"⟩, 7) := ⟨⟨by decide +kernel, by decide +kernel⟩, List.mem_of_getElem? (i := 32) (by decide +kernel), List.mem_of_getElem? (i := 427) (by decide +kernel), List.mem_of_getElem? (i := 428) (by decide +kernel)⟩
theorem lw_p2 : lw_okq (⟨"PegCourt$Guess", "fillWith", "(I)V"⟩, 3) := ⟨⟨by decide +kernel, by decide +kernel⟩, List.mem_of_getElem? (i := 38) (by decide +kernel), List.mem_of_getElem? (i := 434) (by decide +kernel), List.mem_of_getElem? (i := 435) (by decide +kernel)⟩
theorem lw_p3 : lw_okq (⟨"PegCourt$Guess", "measure", "(II)V"⟩, 3) := ⟨⟨by decide +kernel, by decide +kernel⟩, List.mem_of_getElem? (i := 38) (by decide +kernel), List.mem_of_getElem? (i := 441) (by decide +kernel), List.mem_of_getElem? (i := 442) (by decide +kernel)⟩
theorem lw_p4 : lw_okq (⟨"PegCourt$Guess", "packed", "(I)I"⟩, 3) := ⟨⟨by decide +kernel, by decide +kernel⟩, List.mem_of_getElem? (i := 38) (by decide +kernel), List.mem_of_getElem? (i := 445) (by decide +kernel), List.mem_of_getElem? (i := 446) (by decide +kernel)⟩
theorem lw_p5 : lw_okq (⟨"PegCourt$Guess", "stepOn", "(II)V"⟩, 3) := ⟨⟨by decide +kernel, by decide +kernel⟩, List.mem_of_getElem? (i := 38) (by decide +kernel), List.mem_of_getElem? (i := 449) (by decide +kernel), List.mem_of_getElem? (i := 450) (by decide +kernel)⟩
theorem lw_p6 : lw_okq (⟨"PegCourt$Play", "startAnew", "()V"⟩, 17) := ⟨⟨by decide +kernel, by decide +kernel⟩, List.mem_of_getElem? (i := 100) (by decide +kernel), List.mem_of_getElem? (i := 453) (by decide +kernel), List.mem_of_getElem? (i := 454) (by decide +kernel)⟩
theorem lw_p7 : lw_okq (⟨"PegCourt$Play", "setLaw", "(II)V"⟩, 17) := ⟨⟨by decide +kernel, by decide +kernel⟩, List.mem_of_getElem? (i := 100) (by decide +kernel), List.mem_of_getElem? (i := 457) (by decide +kernel), List.mem_of_getElem? (i := 458) (by decide +kernel)⟩
theorem lw_p8 : lw_okq (⟨"PegCourt$Play", "isLawful", "(I)Z"⟩, 17) := ⟨⟨by decide +kernel, by decide +kernel⟩, List.mem_of_getElem? (i := 100) (by decide +kernel), List.mem_of_getElem? (i := 461) (by decide +kernel), List.mem_of_getElem? (i := 462) (by decide +kernel)⟩
theorem lw_p9 : lw_okq (⟨"PegCourt$CodeBook", "hasColourTwice", "(I)Z"⟩, 7) := ⟨⟨by decide +kernel, by decide +kernel⟩, List.mem_of_getElem? (i := 32) (by decide +kernel), List.mem_of_getElem? (i := 465) (by decide +kernel), List.mem_of_getElem? (i := 466) (by decide +kernel)⟩
theorem lw_p10 : lw_okq (⟨"PegCourt$CodeBook", "colourAt", "(II)I"⟩, 7) := ⟨⟨by decide +kernel, by decide +kernel⟩, List.mem_of_getElem? (i := 32) (by decide +kernel), List.mem_of_getElem? (i := 469) (by decide +kernel), List.mem_of_getElem? (i := 470) (by decide +kernel)⟩
theorem lw_p11 : lw_okq (⟨"PegCourt$CodeBook", "sumOfColours", "(I)I"⟩, 7) := ⟨⟨by decide +kernel, by decide +kernel⟩, List.mem_of_getElem? (i := 32) (by decide +kernel), List.mem_of_getElem? (i := 473) (by decide +kernel), List.mem_of_getElem? (i := 474) (by decide +kernel)⟩
theorem lw_p12 : lw_okq (⟨"PegCourt$Play", "findLeft", "()V"⟩, 17) := ⟨⟨by decide +kernel, by decide +kernel⟩, List.mem_of_getElem? (i := 100) (by decide +kernel), List.mem_of_getElem? (i := 477) (by decide +kernel), List.mem_of_getElem? (i := 478) (by decide +kernel)⟩
theorem lw_p13 : lw_okq (⟨"PegCourt$Play", "isLeft", "(I)Z"⟩, 17) := ⟨⟨by decide +kernel, by decide +kernel⟩, List.mem_of_getElem? (i := 100) (by decide +kernel), List.mem_of_getElem? (i := 481) (by decide +kernel), List.mem_of_getElem? (i := 482) (by decide +kernel)⟩
theorem lw_p14 : lw_okq (⟨"PegCourt$CodeBook", "has", "(I)Z"⟩, 7) := ⟨⟨by decide +kernel, by decide +kernel⟩, List.mem_of_getElem? (i := 32) (by decide +kernel), List.mem_of_getElem? (i := 485) (by decide +kernel), List.mem_of_getElem? (i := 486) (by decide +kernel)⟩
theorem lw_p15 : lw_okq (⟨"PegCourt$Plan", "empty", "()V"⟩, 11) := ⟨⟨by decide +kernel, by decide +kernel⟩, List.mem_of_getElem? (i := 356) (by decide +kernel), List.mem_of_getElem? (i := 497) (by decide +kernel), List.mem_of_getElem? (i := 498) (by decide +kernel)⟩
def lw_privs_1 : List (MethodName × Nat) := [(⟨"PegCourt", "startAnew", "(II)V"⟩, 12), (⟨"PegCourt$CodeBook", "write", "(II)V"⟩, 7), (⟨"PegCourt$Guess", "fillWith", "(I)V"⟩, 3), (⟨"PegCourt$Guess", "measure", "(II)V"⟩, 3), (⟨"PegCourt$Guess", "packed", "(I)I"⟩, 3), (⟨"PegCourt$Guess", "stepOn", "(II)V"⟩, 3), (⟨"PegCourt$Play", "startAnew", "()V"⟩, 17), (⟨"PegCourt$Play", "setLaw", "(II)V"⟩, 17), (⟨"PegCourt$Play", "isLawful", "(I)Z"⟩, 17), (⟨"PegCourt$CodeBook", "hasColourTwice", "(I)Z"⟩, 7), (⟨"PegCourt$CodeBook", "colourAt", "(II)I"⟩, 7), (⟨"PegCourt$CodeBook", "sumOfColours", "(I)I"⟩, 7), (⟨"PegCourt$Play", "findLeft", "()V"⟩, 17), (⟨"PegCourt$Play", "isLeft", "(I)Z"⟩, 17), (⟨"PegCourt$CodeBook", "has", "(I)Z"⟩, 7), (⟨"PegCourt$Plan", "empty", "()V"⟩, 11)]
theorem lw_r1 : ∀ q ∈ lw_privs_1, lw_okq q := List.forall_mem_cons.mpr ⟨lw_p0, List.forall_mem_cons.mpr ⟨lw_p1, List.forall_mem_cons.mpr ⟨lw_p2, List.forall_mem_cons.mpr ⟨lw_p3, List.forall_mem_cons.mpr ⟨lw_p4, List.forall_mem_cons.mpr ⟨lw_p5, List.forall_mem_cons.mpr ⟨lw_p6, List.forall_mem_cons.mpr ⟨lw_p7, List.forall_mem_cons.mpr ⟨lw_p8, List.forall_mem_cons.mpr ⟨lw_p9, List.forall_mem_cons.mpr ⟨lw_p10, List.forall_mem_cons.mpr ⟨lw_p11, List.forall_mem_cons.mpr ⟨lw_p12, List.forall_mem_cons.mpr ⟨lw_p13, List.forall_mem_cons.mpr ⟨lw_p14, List.forall_mem_cons.mpr ⟨lw_p15, fun _ h => absurd h List.not_mem_nil⟩⟩⟩⟩⟩⟩⟩⟩⟩⟩⟩⟩⟩⟩⟩⟩
theorem lw_p16 : lw_okq (⟨"PegCourt$Play", "addToList", "(I)V"⟩, 17) := ⟨⟨by decide +kernel, by decide +kernel⟩, List.mem_of_getElem? (i := 100) (by decide +kernel), List.mem_of_getElem? (i := 553) (by decide +kernel), List.mem_of_getElem? (i := 554) (by decide +kernel)⟩
theorem lw_p17 : lw_okq (⟨"PegCourt$Play", "setLies", "(I)V"⟩, 17) := ⟨⟨by decide +kernel, by decide +kernel⟩, List.mem_of_getElem? (i := 100) (by decide +kernel), List.mem_of_getElem? (i := 561) (by decide +kernel), List.mem_of_getElem? (i := 562) (by decide +kernel)⟩
theorem lw_p18 : lw_okq (⟨"PegCourt$CodeBook", "hasPlace", "(I)Z"⟩, 7) := ⟨⟨by decide +kernel, by decide +kernel⟩, List.mem_of_getElem? (i := 32) (by decide +kernel), List.mem_of_getElem? (i := 569) (by decide +kernel), List.mem_of_getElem? (i := 570) (by decide +kernel)⟩
theorem lw_p19 : lw_okq (⟨"PegCourt", "refused", "(I)I"⟩, 12) := ⟨⟨by decide +kernel, by decide +kernel⟩, List.mem_of_getElem? (i := 24) (by decide +kernel), List.mem_of_getElem? (i := 573) (by decide +kernel), List.mem_of_getElem? (i := 574) (by decide +kernel)⟩
theorem lw_p20 : lw_okq (⟨"PegCourt$CodeBook", "isPeg", "(I)Z"⟩, 7) := ⟨⟨by decide +kernel, by decide +kernel⟩, List.mem_of_getElem? (i := 32) (by decide +kernel), List.mem_of_getElem? (i := 577) (by decide +kernel), List.mem_of_getElem? (i := 578) (by decide +kernel)⟩
theorem lw_p21 : lw_okq (⟨"PegCourt", "sortOfHand", "()I"⟩, 12) := ⟨⟨by decide +kernel, by decide +kernel⟩, List.mem_of_getElem? (i := 24) (by decide +kernel), List.mem_of_getElem? (i := 586) (by decide +kernel), List.mem_of_getElem? (i := 587) (by decide +kernel)⟩
theorem lw_p22 : lw_okq (⟨"PegCourt$CodeBook", "numberOf", "(LPegCourt$Guess;)I"⟩, 7) := ⟨⟨by decide +kernel, by decide +kernel⟩, List.mem_of_getElem? (i := 32) (by decide +kernel), List.mem_of_getElem? (i := 590) (by decide +kernel), List.mem_of_getElem? (i := 591) (by decide +kernel)⟩
theorem lw_p23 : lw_okq (⟨"PegCourt$Parts", "divide", "(LPegCourt$Play;II)V"⟩, 3) := ⟨⟨by decide +kernel, by decide +kernel⟩, List.mem_of_getElem? (i := 206) (by decide +kernel), List.mem_of_getElem? (i := 595) (by decide +kernel), List.mem_of_getElem? (i := 596) (by decide +kernel)⟩
theorem lw_p24 : lw_okq (⟨"PegCourt$CodeBook", "answerTo", "(III)I"⟩, 7) := ⟨⟨by decide +kernel, by decide +kernel⟩, List.mem_of_getElem? (i := 32) (by decide +kernel), List.mem_of_getElem? (i := 600) (by decide +kernel), List.mem_of_getElem? (i := 601) (by decide +kernel)⟩
theorem lw_p25 : lw_okq (⟨"PegCourt$CodeBook", "answerOfCodes", "(II)I"⟩, 7) := ⟨⟨by decide +kernel, by decide +kernel⟩, List.mem_of_getElem? (i := 32) (by decide +kernel), List.mem_of_getElem? (i := 617) (by decide +kernel), List.mem_of_getElem? (i := 618) (by decide +kernel)⟩
theorem lw_p26 : lw_okq (⟨"PegCourt$CodeBook", "canBeTold", "(I)Z"⟩, 7) := ⟨⟨by decide +kernel, by decide +kernel⟩, List.mem_of_getElem? (i := 32) (by decide +kernel), List.mem_of_getElem? (i := 631) (by decide +kernel), List.mem_of_getElem? (i := 632) (by decide +kernel)⟩
theorem lw_p27 : lw_okq (⟨"PegCourt$Play", "accepts", "(LPegCourt$Guess;I)Z"⟩, 17) := ⟨⟨by decide +kernel, by decide +kernel⟩, List.mem_of_getElem? (i := 100) (by decide +kernel), List.mem_of_getElem? (i := 635) (by decide +kernel), List.mem_of_getElem? (i := 636) (by decide +kernel)⟩
theorem lw_p28 : lw_okq (⟨"PegCourt$Play", "markFalse", "(LPegCourt$Guess;I)V"⟩, 17) := ⟨⟨by decide +kernel, by decide +kernel⟩, List.mem_of_getElem? (i := 100) (by decide +kernel), List.mem_of_getElem? (i := 639) (by decide +kernel), List.mem_of_getElem? (i := 640) (by decide +kernel)⟩
theorem lw_p29 : lw_okq (⟨"PegCourt$Play", "anyLeft", "()Z"⟩, 17) := ⟨⟨by decide +kernel, by decide +kernel⟩, List.mem_of_getElem? (i := 100) (by decide +kernel), List.mem_of_getElem? (i := 644) (by decide +kernel), List.mem_of_getElem? (i := 645) (by decide +kernel)⟩
theorem lw_p30 : lw_okq (⟨"PegCourt$QuarrelFinder", "leastQuarrel", "(LPegCourt$Play;I)I"⟩, 3) := ⟨⟨by decide +kernel, by decide +kernel⟩, List.mem_of_getElem? (i := 106) (by decide +kernel), List.mem_of_getElem? (i := 648) (by decide +kernel), List.mem_of_getElem? (i := 649) (by decide +kernel)⟩
theorem lw_p31 : lw_okq (⟨"PegCourt$QuarrelFinder", "gather", "(LPegCourt$Play;I)V"⟩, 3) := ⟨⟨by decide +kernel, by decide +kernel⟩, List.mem_of_getElem? (i := 106) (by decide +kernel), List.mem_of_getElem? (i := 652) (by decide +kernel), List.mem_of_getElem? (i := 653) (by decide +kernel)⟩
def lw_privs_2 : List (MethodName × Nat) := [(⟨"PegCourt$Play", "addToList", "(I)V"⟩, 17), (⟨"PegCourt$Play", "setLies", "(I)V"⟩, 17), (⟨"PegCourt$CodeBook", "hasPlace", "(I)Z"⟩, 7), (⟨"PegCourt", "refused", "(I)I"⟩, 12), (⟨"PegCourt$CodeBook", "isPeg", "(I)Z"⟩, 7), (⟨"PegCourt", "sortOfHand", "()I"⟩, 12), (⟨"PegCourt$CodeBook", "numberOf", "(LPegCourt$Guess;)I"⟩, 7), (⟨"PegCourt$Parts", "divide", "(LPegCourt$Play;II)V"⟩, 3), (⟨"PegCourt$CodeBook", "answerTo", "(III)I"⟩, 7), (⟨"PegCourt$CodeBook", "answerOfCodes", "(II)I"⟩, 7), (⟨"PegCourt$CodeBook", "canBeTold", "(I)Z"⟩, 7), (⟨"PegCourt$Play", "accepts", "(LPegCourt$Guess;I)Z"⟩, 17), (⟨"PegCourt$Play", "markFalse", "(LPegCourt$Guess;I)V"⟩, 17), (⟨"PegCourt$Play", "anyLeft", "()Z"⟩, 17), (⟨"PegCourt$QuarrelFinder", "leastQuarrel", "(LPegCourt$Play;I)I"⟩, 3), (⟨"PegCourt$QuarrelFinder", "gather", "(LPegCourt$Play;I)V"⟩, 3)]
theorem lw_r2 : ∀ q ∈ lw_privs_2, lw_okq q := List.forall_mem_cons.mpr ⟨lw_p16, List.forall_mem_cons.mpr ⟨lw_p17, List.forall_mem_cons.mpr ⟨lw_p18, List.forall_mem_cons.mpr ⟨lw_p19, List.forall_mem_cons.mpr ⟨lw_p20, List.forall_mem_cons.mpr ⟨lw_p21, List.forall_mem_cons.mpr ⟨lw_p22, List.forall_mem_cons.mpr ⟨lw_p23, List.forall_mem_cons.mpr ⟨lw_p24, List.forall_mem_cons.mpr ⟨lw_p25, List.forall_mem_cons.mpr ⟨lw_p26, List.forall_mem_cons.mpr ⟨lw_p27, List.forall_mem_cons.mpr ⟨lw_p28, List.forall_mem_cons.mpr ⟨lw_p29, List.forall_mem_cons.mpr ⟨lw_p30, List.forall_mem_cons.mpr ⟨lw_p31, fun _ h => absurd h List.not_mem_nil⟩⟩⟩⟩⟩⟩⟩⟩⟩⟩⟩⟩⟩⟩⟩⟩
theorem lw_p32 : lw_okq (⟨"PegCourt$QuarrelFinder", "isQuarrel", "(II)Z"⟩, 3) := ⟨⟨by decide +kernel, by decide +kernel⟩, List.mem_of_getElem? (i := 106) (by decide +kernel), List.mem_of_getElem? (i := 657) (by decide +kernel), List.mem_of_getElem? (i := 658) (by decide +kernel)⟩
theorem lw_p33 : lw_okq (⟨"PegCourt$QuarrelFinder", "bringForward", "(I)V"⟩, 3) := ⟨⟨by decide +kernel, by decide +kernel⟩, List.mem_of_getElem? (i := 106) (by decide +kernel), List.mem_of_getElem? (i := 661) (by decide +kernel), List.mem_of_getElem? (i := 662) (by decide +kernel)⟩
theorem lw_p34 : lw_okq (⟨"PegCourt$Play", "unmark", "()V"⟩, 17) := ⟨⟨by decide +kernel, by decide +kernel⟩, List.mem_of_getElem? (i := 100) (by decide +kernel), List.mem_of_getElem? (i := 665) (by decide +kernel), List.mem_of_getElem? (i := 666) (by decide +kernel)⟩
theorem lw_p35 : lw_okq (⟨"PegCourt$Play", "takeBack", "()V"⟩, 17) := ⟨⟨by decide +kernel, by decide +kernel⟩, List.mem_of_getElem? (i := 100) (by decide +kernel), List.mem_of_getElem? (i := 676) (by decide +kernel), List.mem_of_getElem? (i := 677) (by decide +kernel)⟩
theorem lw_p36 : lw_okq (⟨"PegCourt$Play", "leftWithFalse", "(I)I"⟩, 17) := ⟨⟨by decide +kernel, by decide +kernel⟩, List.mem_of_getElem? (i := 100) (by decide +kernel), List.mem_of_getElem? (i := 692) (by decide +kernel), List.mem_of_getElem? (i := 693) (by decide +kernel)⟩
theorem lw_p37 : lw_okq (⟨"PegCourt$Parts", "answerOfPart", "(I)I"⟩, 3) := ⟨⟨by decide +kernel, by decide +kernel⟩, List.mem_of_getElem? (i := 206) (by decide +kernel), List.mem_of_getElem? (i := 708) (by decide +kernel), List.mem_of_getElem? (i := 709) (by decide +kernel)⟩
theorem lw_p38 : lw_okq (⟨"PegCourt$Survey", "look", "(LPegCourt$Play;LPegCourt$Parts;)V"⟩, 5) := ⟨⟨by decide +kernel, by decide +kernel⟩, List.mem_of_getElem? (i := 226) (by decide +kernel), List.mem_of_getElem? (i := 717) (by decide +kernel), List.mem_of_getElem? (i := 718) (by decide +kernel)⟩
theorem lw_p39 : lw_okq (⟨"PegCourt$Turnings", "leads", "(LPegCourt$Play;II)Z"⟩, 4) := ⟨⟨by decide +kernel, by decide +kernel⟩, List.mem_of_getElem? (i := 252) (by decide +kernel), List.mem_of_getElem? (i := 726) (by decide +kernel), List.mem_of_getElem? (i := 727) (by decide +kernel)⟩
theorem lw_p40 : lw_okq (⟨"PegCourt$Turnings", "weighPlaces", "()V"⟩, 4) := ⟨⟨by decide +kernel, by decide +kernel⟩, List.mem_of_getElem? (i := 252) (by decide +kernel), List.mem_of_getElem? (i := 730) (by decide +kernel), List.mem_of_getElem? (i := 731) (by decide +kernel)⟩
theorem lw_p41 : lw_okq (⟨"PegCourt$Turnings", "imageOf", "(I)I"⟩, 4) := ⟨⟨by decide +kernel, by decide +kernel⟩, List.mem_of_getElem? (i := 252) (by decide +kernel), List.mem_of_getElem? (i := 737) (by decide +kernel), List.mem_of_getElem? (i := 738) (by decide +kernel)⟩
theorem lw_p42 : lw_okq (⟨"PegCourt$Turnings", "keepsLeft", "(LPegCourt$Play;)Z"⟩, 4) := ⟨⟨by decide +kernel, by decide +kernel⟩, List.mem_of_getElem? (i := 252) (by decide +kernel), List.mem_of_getElem? (i := 742) (by decide +kernel), List.mem_of_getElem? (i := 743) (by decide +kernel)⟩
theorem lw_p43 : lw_okq (⟨"PegCourt", "whyNoTrees", "()I"⟩, 12) := ⟨⟨by decide +kernel, by decide +kernel⟩, List.mem_of_getElem? (i := 24) (by decide +kernel), List.mem_of_getElem? (i := 760) (by decide +kernel), List.mem_of_getElem? (i := 761) (by decide +kernel)⟩
theorem lw_p44 : lw_okq (⟨"PegCourt", "forestOf", "(I)LPegCourt$Forest;"⟩, 12) := ⟨⟨by decide +kernel, by decide +kernel⟩, List.mem_of_getElem? (i := 24) (by decide +kernel), List.mem_of_getElem? (i := 764) (by decide +kernel), List.mem_of_getElem? (i := 765) (by decide +kernel)⟩
theorem lw_p45 : lw_okq (⟨"PegCourt$Forest", "standFor", "(LPegCourt$Play;)V"⟩, 15) := ⟨⟨by decide +kernel, by decide +kernel⟩, List.mem_of_getElem? (i := 271) (by decide +kernel), List.mem_of_getElem? (i := 768) (by decide +kernel), List.mem_of_getElem? (i := 769) (by decide +kernel)⟩
theorem lw_p46 : lw_okq (⟨"PegCourt$Forest", "standsFor", "(LPegCourt$Play;)Z"⟩, 15) := ⟨⟨by decide +kernel, by decide +kernel⟩, List.mem_of_getElem? (i := 271) (by decide +kernel), List.mem_of_getElem? (i := 772) (by decide +kernel), List.mem_of_getElem? (i := 773) (by decide +kernel)⟩
theorem lw_p47 : lw_okq (⟨"PegCourt$Forest", "enter", "(I)V"⟩, 15) := ⟨⟨by decide +kernel, by decide +kernel⟩, List.mem_of_getElem? (i := 271) (by decide +kernel), List.mem_of_getElem? (i := 781) (by decide +kernel), List.mem_of_getElem? (i := 782) (by decide +kernel)⟩
def lw_privs_3 : List (MethodName × Nat) := [(⟨"PegCourt$QuarrelFinder", "isQuarrel", "(II)Z"⟩, 3), (⟨"PegCourt$QuarrelFinder", "bringForward", "(I)V"⟩, 3), (⟨"PegCourt$Play", "unmark", "()V"⟩, 17), (⟨"PegCourt$Play", "takeBack", "()V"⟩, 17), (⟨"PegCourt$Play", "leftWithFalse", "(I)I"⟩, 17), (⟨"PegCourt$Parts", "answerOfPart", "(I)I"⟩, 3), (⟨"PegCourt$Survey", "look", "(LPegCourt$Play;LPegCourt$Parts;)V"⟩, 5), (⟨"PegCourt$Turnings", "leads", "(LPegCourt$Play;II)Z"⟩, 4), (⟨"PegCourt$Turnings", "weighPlaces", "()V"⟩, 4), (⟨"PegCourt$Turnings", "imageOf", "(I)I"⟩, 4), (⟨"PegCourt$Turnings", "keepsLeft", "(LPegCourt$Play;)Z"⟩, 4), (⟨"PegCourt", "whyNoTrees", "()I"⟩, 12), (⟨"PegCourt", "forestOf", "(I)LPegCourt$Forest;"⟩, 12), (⟨"PegCourt$Forest", "standFor", "(LPegCourt$Play;)V"⟩, 15), (⟨"PegCourt$Forest", "standsFor", "(LPegCourt$Play;)Z"⟩, 15), (⟨"PegCourt$Forest", "enter", "(I)V"⟩, 15)]
theorem lw_r3 : ∀ q ∈ lw_privs_3, lw_okq q := List.forall_mem_cons.mpr ⟨lw_p32, List.forall_mem_cons.mpr ⟨lw_p33, List.forall_mem_cons.mpr ⟨lw_p34, List.forall_mem_cons.mpr ⟨lw_p35, List.forall_mem_cons.mpr ⟨lw_p36, List.forall_mem_cons.mpr ⟨lw_p37, List.forall_mem_cons.mpr ⟨lw_p38, List.forall_mem_cons.mpr ⟨lw_p39, List.forall_mem_cons.mpr ⟨lw_p40, List.forall_mem_cons.mpr ⟨lw_p41, List.forall_mem_cons.mpr ⟨lw_p42, List.forall_mem_cons.mpr ⟨lw_p43, List.forall_mem_cons.mpr ⟨lw_p44, List.forall_mem_cons.mpr ⟨lw_p45, List.forall_mem_cons.mpr ⟨lw_p46, List.forall_mem_cons.mpr ⟨lw_p47, fun _ h => absurd h List.not_mem_nil⟩⟩⟩⟩⟩⟩⟩⟩⟩⟩⟩⟩⟩⟩⟩⟩
theorem lw_p48 : lw_okq (⟨"PegCourt$Forest", "classify", "(I)J"⟩, 15) := ⟨⟨by decide +kernel, by decide +kernel⟩, List.mem_of_getElem? (i := 271) (by decide +kernel), List.mem_of_getElem? (i := 785) (by decide +kernel), List.mem_of_getElem? (i := 786) (by decide +kernel)⟩
theorem lw_p49 : lw_okq (⟨"PegCourt$CodeBook", "fullAnswer", "()I"⟩, 7) := ⟨⟨by decide +kernel, by decide +kernel⟩, List.mem_of_getElem? (i := 32) (by decide +kernel), List.mem_of_getElem? (i := 789) (by decide +kernel), List.mem_of_getElem? (i := 790) (by decide +kernel)⟩
theorem lw_p50 : lw_okq (⟨"PegCourt$Forest", "slotOf", "(J)I"⟩, 15) := ⟨⟨by decide +kernel, by decide +kernel⟩, List.mem_of_getElem? (i := 271) (by decide +kernel), List.mem_of_getElem? (i := 794) (by decide +kernel), List.mem_of_getElem? (i := 795) (by decide +kernel)⟩
theorem lw_p51 : lw_okq (⟨"PegCourt$Forest", "bitOf", "(I)I"⟩, 15) := ⟨⟨by decide +kernel, by decide +kernel⟩, List.mem_of_getElem? (i := 271) (by decide +kernel), List.mem_of_getElem? (i := 799) (by decide +kernel), List.mem_of_getElem? (i := 800) (by decide +kernel)⟩
theorem lw_p52 : lw_okq (⟨"PegCourt$Forest", "leastDepth", "()I"⟩, 15) := ⟨⟨by decide +kernel, by decide +kernel⟩, List.mem_of_getElem? (i := 271) (by decide +kernel), List.mem_of_getElem? (i := 803) (by decide +kernel), List.mem_of_getElem? (i := 804) (by decide +kernel)⟩
theorem lw_p53 : lw_okq (⟨"PegCourt$Forest", "allMembers", "()I"⟩, 15) := ⟨⟨by decide +kernel, by decide +kernel⟩, List.mem_of_getElem? (i := 271) (by decide +kernel), List.mem_of_getElem? (i := 807) (by decide +kernel), List.mem_of_getElem? (i := 808) (by decide +kernel)⟩
theorem lw_p54 : lw_okq (⟨"PegCourt$Forest", "leastSum", "(II)I"⟩, 15) := ⟨⟨by decide +kernel, by decide +kernel⟩, List.mem_of_getElem? (i := 271) (by decide +kernel), List.mem_of_getElem? (i := 811) (by decide +kernel), List.mem_of_getElem? (i := 812) (by decide +kernel)⟩
theorem lw_p55 : lw_okq (⟨"PegCourt$Forest", "shortOf", "(II)I"⟩, 15) := ⟨⟨by decide +kernel, by decide +kernel⟩, List.mem_of_getElem? (i := 271) (by decide +kernel), List.mem_of_getElem? (i := 816) (by decide +kernel), List.mem_of_getElem? (i := 817) (by decide +kernel)⟩
theorem lw_p56 : lw_okq (⟨"PegCourt$Forest", "findShort", "(II)I"⟩, 15) := ⟨⟨by decide +kernel, by decide +kernel⟩, List.mem_of_getElem? (i := 271) (by decide +kernel), List.mem_of_getElem? (i := 820) (by decide +kernel), List.mem_of_getElem? (i := 821) (by decide +kernel)⟩
theorem lw_p57 : lw_okq (⟨"PegCourt$Forest", "sumBehind", "(IIII)I"⟩, 15) := ⟨⟨by decide +kernel, by decide +kernel⟩, List.mem_of_getElem? (i := 271) (by decide +kernel), List.mem_of_getElem? (i := 825) (by decide +kernel), List.mem_of_getElem? (i := 826) (by decide +kernel)⟩
theorem lw_p58 : lw_okq (⟨"PegCourt$Forest", "classesIn", "(II)I"⟩, 15) := ⟨⟨by decide +kernel, by decide +kernel⟩, List.mem_of_getElem? (i := 271) (by decide +kernel), List.mem_of_getElem? (i := 829) (by decide +kernel), List.mem_of_getElem? (i := 830) (by decide +kernel)⟩
theorem lw_p59 : lw_okq (⟨"PegCourt$Forest", "leastSumWithin", "(I)I"⟩, 15) := ⟨⟨by decide +kernel, by decide +kernel⟩, List.mem_of_getElem? (i := 271) (by decide +kernel), List.mem_of_getElem? (i := 840) (by decide +kernel), List.mem_of_getElem? (i := 841) (by decide +kernel)⟩
theorem lw_p60 : lw_okq (⟨"PegCourt$Forest", "bounded", "(I)I"⟩, 15) := ⟨⟨by decide +kernel, by decide +kernel⟩, List.mem_of_getElem? (i := 271) (by decide +kernel), List.mem_of_getElem? (i := 844) (by decide +kernel), List.mem_of_getElem? (i := 845) (by decide +kernel)⟩
theorem lw_p61 : lw_okq (⟨"PegCourt$Forest", "firstOfLeastDepth", "()I"⟩, 15) := ⟨⟨by decide +kernel, by decide +kernel⟩, List.mem_of_getElem? (i := 271) (by decide +kernel), List.mem_of_getElem? (i := 852) (by decide +kernel), List.mem_of_getElem? (i := 853) (by decide +kernel)⟩
theorem lw_p62 : lw_okq (⟨"PegCourt$Forest", "firstOfLeastSum", "(I)I"⟩, 15) := ⟨⟨by decide +kernel, by decide +kernel⟩, List.mem_of_getElem? (i := 271) (by decide +kernel), List.mem_of_getElem? (i := 857) (by decide +kernel), List.mem_of_getElem? (i := 858) (by decide +kernel)⟩
theorem lw_p63 : lw_okq (⟨"PegCourt$Forest", "shortGuess", "(II)I"⟩, 15) := ⟨⟨by decide +kernel, by decide +kernel⟩, List.mem_of_getElem? (i := 271) (by decide +kernel), List.mem_of_getElem? (i := 861) (by decide +kernel), List.mem_of_getElem? (i := 862) (by decide +kernel)⟩
def lw_privs_4 : List (MethodName × Nat) := [(⟨"PegCourt$Forest", "classify", "(I)J"⟩, 15), (⟨"PegCourt$CodeBook", "fullAnswer", "()I"⟩, 7), (⟨"PegCourt$Forest", "slotOf", "(J)I"⟩, 15), (⟨"PegCourt$Forest", "bitOf", "(I)I"⟩, 15), (⟨"PegCourt$Forest", "leastDepth", "()I"⟩, 15), (⟨"PegCourt$Forest", "allMembers", "()I"⟩, 15), (⟨"PegCourt$Forest", "leastSum", "(II)I"⟩, 15), (⟨"PegCourt$Forest", "shortOf", "(II)I"⟩, 15), (⟨"PegCourt$Forest", "findShort", "(II)I"⟩, 15), (⟨"PegCourt$Forest", "sumBehind", "(IIII)I"⟩, 15), (⟨"PegCourt$Forest", "classesIn", "(II)I"⟩, 15), (⟨"PegCourt$Forest", "leastSumWithin", "(I)I"⟩, 15), (⟨"PegCourt$Forest", "bounded", "(I)I"⟩, 15), (⟨"PegCourt$Forest", "firstOfLeastDepth", "()I"⟩, 15), (⟨"PegCourt$Forest", "firstOfLeastSum", "(I)I"⟩, 15), (⟨"PegCourt$Forest", "shortGuess", "(II)I"⟩, 15)]
theorem lw_r4 : ∀ q ∈ lw_privs_4, lw_okq q := List.forall_mem_cons.mpr ⟨lw_p48, List.forall_mem_cons.mpr ⟨lw_p49, List.forall_mem_cons.mpr ⟨lw_p50, List.forall_mem_cons.mpr ⟨lw_p51, List.forall_mem_cons.mpr ⟨lw_p52, List.forall_mem_cons.mpr ⟨lw_p53, List.forall_mem_cons.mpr ⟨lw_p54, List.forall_mem_cons.mpr ⟨lw_p55, List.forall_mem_cons.mpr ⟨lw_p56, List.forall_mem_cons.mpr ⟨lw_p57, List.forall_mem_cons.mpr ⟨lw_p58, List.forall_mem_cons.mpr ⟨lw_p59, List.forall_mem_cons.mpr ⟨lw_p60, List.forall_mem_cons.mpr ⟨lw_p61, List.forall_mem_cons.mpr ⟨lw_p62, List.forall_mem_cons.mpr ⟨lw_p63, fun _ h => absurd h List.not_mem_nil⟩⟩⟩⟩⟩⟩⟩⟩⟩⟩⟩⟩⟩⟩⟩⟩
theorem lw_p64 : lw_okq (⟨"PegCourt$Forest", "plant", "(LPegCourt$Tree;I)V"⟩, 15) := ⟨⟨by decide +kernel, by decide +kernel⟩, List.mem_of_getElem? (i := 271) (by decide +kernel), List.mem_of_getElem? (i := 869) (by decide +kernel), List.mem_of_getElem? (i := 870) (by decide +kernel)⟩
theorem lw_p65 : lw_okq (⟨"PegCourt$Forest", "grow", "(LPegCourt$Tree;IIII)V"⟩, 15) := ⟨⟨by decide +kernel, by decide +kernel⟩, List.mem_of_getElem? (i := 271) (by decide +kernel), List.mem_of_getElem? (i := 873) (by decide +kernel), List.mem_of_getElem? (i := 874) (by decide +kernel)⟩
theorem lw_p66 : lw_okq (⟨"PegCourt$Tree", "add", "(IIII)V"⟩, 6) := ⟨⟨by decide +kernel, by decide +kernel⟩, List.mem_of_getElem? (i := 324) (by decide +kernel), List.mem_of_getElem? (i := 877) (by decide +kernel), List.mem_of_getElem? (i := 878) (by decide +kernel)⟩
theorem lw_p67 : lw_okq (⟨"PegCourt$Forest", "nextAnswer", "(III)I"⟩, 15) := ⟨⟨by decide +kernel, by decide +kernel⟩, List.mem_of_getElem? (i := 271) (by decide +kernel), List.mem_of_getElem? (i := 881) (by decide +kernel), List.mem_of_getElem? (i := 882) (by decide +kernel)⟩
theorem lw_p68 : lw_okq (⟨"PegCourt$Forest", "withAnswer", "(III)I"⟩, 15) := ⟨⟨by decide +kernel, by decide +kernel⟩, List.mem_of_getElem? (i := 271) (by decide +kernel), List.mem_of_getElem? (i := 885) (by decide +kernel), List.mem_of_getElem? (i := 886) (by decide +kernel)⟩
theorem lw_p69 : lw_okq (⟨"PegCourt$Plan", "has", "(I)Z"⟩, 11) := ⟨⟨by decide +kernel, by decide +kernel⟩, List.mem_of_getElem? (i := 356) (by decide +kernel), List.mem_of_getElem? (i := 897) (by decide +kernel), List.mem_of_getElem? (i := 898) (by decide +kernel)⟩
theorem lw_p70 : lw_okq (⟨"PegCourt$Plan", "add", "(III)V"⟩, 11) := ⟨⟨by decide +kernel, by decide +kernel⟩, List.mem_of_getElem? (i := 356) (by decide +kernel), List.mem_of_getElem? (i := 901) (by decide +kernel), List.mem_of_getElem? (i := 902) (by decide +kernel)⟩
theorem lw_p71 : lw_okq (⟨"PegCourt$Plan", "follow", "(LPegCourt$Play;)V"⟩, 11) := ⟨⟨by decide +kernel, by decide +kernel⟩, List.mem_of_getElem? (i := 356) (by decide +kernel), List.mem_of_getElem? (i := 917) (by decide +kernel), List.mem_of_getElem? (i := 918) (by decide +kernel)⟩
theorem lw_p72 : lw_okq (⟨"PegCourt$Plan", "followCode", "(LPegCourt$CodeBook;I)V"⟩, 11) := ⟨⟨by decide +kernel, by decide +kernel⟩, List.mem_of_getElem? (i := 356) (by decide +kernel), List.mem_of_getElem? (i := 924) (by decide +kernel), List.mem_of_getElem? (i := 925) (by decide +kernel)⟩
theorem lw_p73 : lw_okq (⟨"PegCourt$Plan", "firstNotWhole", "()I"⟩, 11) := ⟨⟨by decide +kernel, by decide +kernel⟩, List.mem_of_getElem? (i := 356) (by decide +kernel), List.mem_of_getElem? (i := 930) (by decide +kernel), List.mem_of_getElem? (i := 931) (by decide +kernel)⟩
theorem lw_p74 : lw_okq (⟨"PegCourt$Shelf", "holdRow", "(II)V"⟩, 4) := ⟨⟨by decide +kernel, by decide +kernel⟩, List.mem_of_getElem? (i := 400) (by decide +kernel), List.mem_of_getElem? (i := 946) (by decide +kernel), List.mem_of_getElem? (i := 947) (by decide +kernel)⟩
theorem lw_p75 : lw_okq (⟨"PegCourt$Shelf", "holdGuess", "(LPegCourt$Guess;II)V"⟩, 4) := ⟨⟨by decide +kernel, by decide +kernel⟩, List.mem_of_getElem? (i := 400) (by decide +kernel), List.mem_of_getElem? (i := 955) (by decide +kernel), List.mem_of_getElem? (i := 956) (by decide +kernel)⟩
theorem lw_p76 : lw_okq (⟨"PegCourt$Shelf", "whyNoRow", "()I"⟩, 4) := ⟨⟨by decide +kernel, by decide +kernel⟩, List.mem_of_getElem? (i := 400) (by decide +kernel), List.mem_of_getElem? (i := 968) (by decide +kernel), List.mem_of_getElem? (i := 969) (by decide +kernel)⟩
theorem lw_p77 : lw_okq (⟨"PegCourt$Shelf", "hasCells", "(II)Z"⟩, 4) := ⟨⟨by decide +kernel, by decide +kernel⟩, List.mem_of_getElem? (i := 400) (by decide +kernel), List.mem_of_getElem? (i := 972) (by decide +kernel), List.mem_of_getElem? (i := 973) (by decide +kernel)⟩
theorem lw_p78 : lw_okq (⟨"PegCourt$Shelf", "narrowed", "(I)I"⟩, 4) := ⟨⟨by decide +kernel, by decide +kernel⟩, List.mem_of_getElem? (i := 400) (by decide +kernel), List.mem_of_getElem? (i := 976) (by decide +kernel), List.mem_of_getElem? (i := 977) (by decide +kernel)⟩
theorem lw_p79 : lw_okq (⟨"PegCourt$Shelf", "pegAt", "(I)I"⟩, 4) := ⟨⟨by decide +kernel, by decide +kernel⟩, List.mem_of_getElem? (i := 400) (by decide +kernel), List.mem_of_getElem? (i := 989) (by decide +kernel), List.mem_of_getElem? (i := 990) (by decide +kernel)⟩
def lw_privs_5 : List (MethodName × Nat) := [(⟨"PegCourt$Forest", "plant", "(LPegCourt$Tree;I)V"⟩, 15), (⟨"PegCourt$Forest", "grow", "(LPegCourt$Tree;IIII)V"⟩, 15), (⟨"PegCourt$Tree", "add", "(IIII)V"⟩, 6), (⟨"PegCourt$Forest", "nextAnswer", "(III)I"⟩, 15), (⟨"PegCourt$Forest", "withAnswer", "(III)I"⟩, 15), (⟨"PegCourt$Plan", "has", "(I)Z"⟩, 11), (⟨"PegCourt$Plan", "add", "(III)V"⟩, 11), (⟨"PegCourt$Plan", "follow", "(LPegCourt$Play;)V"⟩, 11), (⟨"PegCourt$Plan", "followCode", "(LPegCourt$CodeBook;I)V"⟩, 11), (⟨"PegCourt$Plan", "firstNotWhole", "()I"⟩, 11), (⟨"PegCourt$Shelf", "holdRow", "(II)V"⟩, 4), (⟨"PegCourt$Shelf", "holdGuess", "(LPegCourt$Guess;II)V"⟩, 4), (⟨"PegCourt$Shelf", "whyNoRow", "()I"⟩, 4), (⟨"PegCourt$Shelf", "hasCells", "(II)Z"⟩, 4), (⟨"PegCourt$Shelf", "narrowed", "(I)I"⟩, 4), (⟨"PegCourt$Shelf", "pegAt", "(I)I"⟩, 4)]
theorem lw_r5 : ∀ q ∈ lw_privs_5, lw_okq q := List.forall_mem_cons.mpr ⟨lw_p64, List.forall_mem_cons.mpr ⟨lw_p65, List.forall_mem_cons.mpr ⟨lw_p66, List.forall_mem_cons.mpr ⟨lw_p67, List.forall_mem_cons.mpr ⟨lw_p68, List.forall_mem_cons.mpr ⟨lw_p69, List.forall_mem_cons.mpr ⟨lw_p70, List.forall_mem_cons.mpr ⟨lw_p71, List.forall_mem_cons.mpr ⟨lw_p72, List.forall_mem_cons.mpr ⟨lw_p73, List.forall_mem_cons.mpr ⟨lw_p74, List.forall_mem_cons.mpr ⟨lw_p75, List.forall_mem_cons.mpr ⟨lw_p76, List.forall_mem_cons.mpr ⟨lw_p77, List.forall_mem_cons.mpr ⟨lw_p78, List.forall_mem_cons.mpr ⟨lw_p79, fun _ h => absurd h List.not_mem_nil⟩⟩⟩⟩⟩⟩⟩⟩⟩⟩⟩⟩⟩⟩⟩⟩
theorem lw_p80 : lw_okq (⟨"PegCourt$Shelf", "whyNoGuess", "()I"⟩, 4) := ⟨⟨by decide +kernel, by decide +kernel⟩, List.mem_of_getElem? (i := 400) (by decide +kernel), List.mem_of_getElem? (i := 998) (by decide +kernel), List.mem_of_getElem? (i := 999) (by decide +kernel)⟩
theorem lw_p81 : lw_okq (⟨"PegCourt$Shelf", "weight", "()I"⟩, 4) := ⟨⟨by decide +kernel, by decide +kernel⟩, List.mem_of_getElem? (i := 400) (by decide +kernel), List.mem_of_getElem? (i := 1002) (by decide +kernel), List.mem_of_getElem? (i := 1003) (by decide +kernel)⟩
theorem lw_p82 : lw_okq (⟨"PegCourt$Shelf", "pegsSet", "()I"⟩, 4) := ⟨⟨by decide +kernel, by decide +kernel⟩, List.mem_of_getElem? (i := 400) (by decide +kernel), List.mem_of_getElem? (i := 1006) (by decide +kernel), List.mem_of_getElem? (i := 1007) (by decide +kernel)⟩
theorem lw_p83 : lw_okq (⟨"PegCourt$Shelf", "rank", "()I"⟩, 4) := ⟨⟨by decide +kernel, by decide +kernel⟩, List.mem_of_getElem? (i := 400) (by decide +kernel), List.mem_of_getElem? (i := 1010) (by decide +kernel), List.mem_of_getElem? (i := 1011) (by decide +kernel)⟩
theorem lw_p84 : lw_okq (⟨"PegCourt$Shelf", "failIfAnyPeg", "()V"⟩, 4) := ⟨⟨by decide +kernel, by decide +kernel⟩, List.mem_of_getElem? (i := 400) (by decide +kernel), List.mem_of_getElem? (i := 1019) (by decide +kernel), List.mem_of_getElem? (i := 1020) (by decide +kernel)⟩
theorem lw_p85 : lw_okq (⟨"java/lang/Throwable", "fillInStackTrace", "(I)Ljava/lang/Throwable;"⟩, 6) := ⟨⟨by decide +kernel, by decide +kernel⟩, List.mem_of_getElem? (i := 1060) (by decide +kernel), List.mem_of_getElem? (i := 1058) (by decide +kernel), List.mem_of_getElem? (i := 1059) (by decide +kernel)⟩
theorem lw_p86 : lw_okq (⟨"PegCourt", "partsOfHand", "()I"⟩, 12) := ⟨⟨by decide +kernel, by decide +kernel⟩, List.mem_of_getElem? (i := 24) (by decide +kernel), List.mem_of_getElem? (i := 1094) (by decide +kernel), List.mem_of_getElem? (i := 1095) (by decide +kernel)⟩
theorem lw_p87 : lw_okq (⟨"PegCourtModel", "allowed", "()I"⟩, 53) := ⟨⟨by decide +kernel, by decide +kernel⟩, List.mem_of_getElem? (i := 1126) (by decide +kernel), List.mem_of_getElem? (i := 1308) (by decide +kernel), List.mem_of_getElem? (i := 1309) (by decide +kernel)⟩
theorem lw_p88 : lw_okq (⟨"PegCourtModel", "isAllowed", "(I)Z"⟩, 53) := ⟨⟨by decide +kernel, by decide +kernel⟩, List.mem_of_getElem? (i := 1126) (by decide +kernel), List.mem_of_getElem? (i := 1312) (by decide +kernel), List.mem_of_getElem? (i := 1313) (by decide +kernel)⟩
theorem lw_p89 : lw_okq (⟨"PegCourtModel", "peg0", "(II)I"⟩, 53) := ⟨⟨by decide +kernel, by decide +kernel⟩, List.mem_of_getElem? (i := 1126) (by decide +kernel), List.mem_of_getElem? (i := 1316) (by decide +kernel), List.mem_of_getElem? (i := 1317) (by decide +kernel)⟩
theorem lw_p90 : lw_okq (⟨"PegCourtModel", "isCode", "(I)Z"⟩, 53) := ⟨⟨by decide +kernel, by decide +kernel⟩, List.mem_of_getElem? (i := 1126) (by decide +kernel), List.mem_of_getElem? (i := 1324) (by decide +kernel), List.mem_of_getElem? (i := 1325) (by decide +kernel)⟩
theorem lw_p91 : lw_okq (⟨"PegCourtModel", "found", "(I)I"⟩, 53) := ⟨⟨by decide +kernel, by decide +kernel⟩, List.mem_of_getElem? (i := 1126) (by decide +kernel), List.mem_of_getElem? (i := 1336) (by decide +kernel), List.mem_of_getElem? (i := 1337) (by decide +kernel)⟩
theorem lw_p92 : lw_okq (⟨"PegCourtModel", "sortOf", "()I"⟩, 53) := ⟨⟨by decide +kernel, by decide +kernel⟩, List.mem_of_getElem? (i := 1126) (by decide +kernel), List.mem_of_getElem? (i := 1344) (by decide +kernel), List.mem_of_getElem? (i := 1345) (by decide +kernel)⟩
theorem lw_p93 : lw_okq (⟨"PegCourtModel", "look", "()V"⟩, 53) := ⟨⟨by decide +kernel, by decide +kernel⟩, List.mem_of_getElem? (i := 1126) (by decide +kernel), List.mem_of_getElem? (i := 1348) (by decide +kernel), List.mem_of_getElem? (i := 1349) (by decide +kernel)⟩
theorem lw_p94 : lw_okq (⟨"PegCourtModel", "falseOf", "(II)I"⟩, 53) := ⟨⟨by decide +kernel, by decide +kernel⟩, List.mem_of_getElem? (i := 1126) (by decide +kernel), List.mem_of_getElem? (i := 1352) (by decide +kernel), List.mem_of_getElem? (i := 1353) (by decide +kernel)⟩
theorem lw_p95 : lw_okq (⟨"PegCourtModel", "guessTurn", "(I)V"⟩, 53) := ⟨⟨by decide +kernel, by decide +kernel⟩, List.mem_of_getElem? (i := 1126) (by decide +kernel), List.mem_of_getElem? (i := 1356) (by decide +kernel), List.mem_of_getElem? (i := 1357) (by decide +kernel)⟩
def lw_privs_6 : List (MethodName × Nat) := [(⟨"PegCourt$Shelf", "whyNoGuess", "()I"⟩, 4), (⟨"PegCourt$Shelf", "weight", "()I"⟩, 4), (⟨"PegCourt$Shelf", "pegsSet", "()I"⟩, 4), (⟨"PegCourt$Shelf", "rank", "()I"⟩, 4), (⟨"PegCourt$Shelf", "failIfAnyPeg", "()V"⟩, 4), (⟨"java/lang/Throwable", "fillInStackTrace", "(I)Ljava/lang/Throwable;"⟩, 6), (⟨"PegCourt", "partsOfHand", "()I"⟩, 12), (⟨"PegCourtModel", "allowed", "()I"⟩, 53), (⟨"PegCourtModel", "isAllowed", "(I)Z"⟩, 53), (⟨"PegCourtModel", "peg0", "(II)I"⟩, 53), (⟨"PegCourtModel", "isCode", "(I)Z"⟩, 53), (⟨"PegCourtModel", "found", "(I)I"⟩, 53), (⟨"PegCourtModel", "sortOf", "()I"⟩, 53), (⟨"PegCourtModel", "look", "()V"⟩, 53), (⟨"PegCourtModel", "falseOf", "(II)I"⟩, 53), (⟨"PegCourtModel", "guessTurn", "(I)V"⟩, 53)]
theorem lw_r6 : ∀ q ∈ lw_privs_6, lw_okq q := List.forall_mem_cons.mpr ⟨lw_p80, List.forall_mem_cons.mpr ⟨lw_p81, List.forall_mem_cons.mpr ⟨lw_p82, List.forall_mem_cons.mpr ⟨lw_p83, List.forall_mem_cons.mpr ⟨lw_p84, List.forall_mem_cons.mpr ⟨lw_p85, List.forall_mem_cons.mpr ⟨lw_p86, List.forall_mem_cons.mpr ⟨lw_p87, List.forall_mem_cons.mpr ⟨lw_p88, List.forall_mem_cons.mpr ⟨lw_p89, List.forall_mem_cons.mpr ⟨lw_p90, List.forall_mem_cons.mpr ⟨lw_p91, List.forall_mem_cons.mpr ⟨lw_p92, List.forall_mem_cons.mpr ⟨lw_p93, List.forall_mem_cons.mpr ⟨lw_p94, List.forall_mem_cons.mpr ⟨lw_p95, fun _ h => absurd h List.not_mem_nil⟩⟩⟩⟩⟩⟩⟩⟩⟩⟩⟩⟩⟩⟩⟩⟩
theorem lw_p96 : lw_okq (⟨"PegCourtModel", "answers", "(I)I"⟩, 53) := ⟨⟨by decide +kernel, by decide +kernel⟩, List.mem_of_getElem? (i := 1126) (by decide +kernel), List.mem_of_getElem? (i := 1360) (by decide +kernel), List.mem_of_getElem? (i := 1361) (by decide +kernel)⟩
theorem lw_p97 : lw_okq (⟨"PegCourtModel", "guessHand", "()V"⟩, 53) := ⟨⟨by decide +kernel, by decide +kernel⟩, List.mem_of_getElem? (i := 1126) (by decide +kernel), List.mem_of_getElem? (i := 1367) (by decide +kernel), List.mem_of_getElem? (i := 1368) (by decide +kernel)⟩
theorem lw_p98 : lw_okq (⟨"PegCourtModel", "guessCode", "(I)V"⟩, 53) := ⟨⟨by decide +kernel, by decide +kernel⟩, List.mem_of_getElem? (i := 1126) (by decide +kernel), List.mem_of_getElem? (i := 1383) (by decide +kernel), List.mem_of_getElem? (i := 1384) (by decide +kernel)⟩
theorem lw_p99 : lw_okq (⟨"PegCourtModel", "mayAnswer", "(I)Z"⟩, 53) := ⟨⟨by decide +kernel, by decide +kernel⟩, List.mem_of_getElem? (i := 1126) (by decide +kernel), List.mem_of_getElem? (i := 1395) (by decide +kernel), List.mem_of_getElem? (i := 1396) (by decide +kernel)⟩
theorem lw_p100 : lw_okq (⟨"PegCourtModel", "quarrels", "(I)V"⟩, 53) := ⟨⟨by decide +kernel, by decide +kernel⟩, List.mem_of_getElem? (i := 1126) (by decide +kernel), List.mem_of_getElem? (i := 1399) (by decide +kernel), List.mem_of_getElem? (i := 1400) (by decide +kernel)⟩
theorem lw_p101 : lw_okq (⟨"PegCourtModel", "partsOf", "()I"⟩, 53) := ⟨⟨by decide +kernel, by decide +kernel⟩, List.mem_of_getElem? (i := 1126) (by decide +kernel), List.mem_of_getElem? (i := 1427) (by decide +kernel), List.mem_of_getElem? (i := 1428) (by decide +kernel)⟩
theorem lw_p102 : lw_okq (⟨"PegCourtModel", "isLeft", "(I)Z"⟩, 53) := ⟨⟨by decide +kernel, by decide +kernel⟩, List.mem_of_getElem? (i := 1126) (by decide +kernel), List.mem_of_getElem? (i := 1441) (by decide +kernel), List.mem_of_getElem? (i := 1442) (by decide +kernel)⟩
theorem lw_p103 : lw_okq (⟨"PegCourtModel", "turned", "(I)I"⟩, 53) := ⟨⟨by decide +kernel, by decide +kernel⟩, List.mem_of_getElem? (i := 1126) (by decide +kernel), List.mem_of_getElem? (i := 1448) (by decide +kernel), List.mem_of_getElem? (i := 1449) (by decide +kernel)⟩
theorem lw_p104 : lw_okq (⟨"PegCourtModel", "refusedTree", "(I)I"⟩, 53) := ⟨⟨by decide +kernel, by decide +kernel⟩, List.mem_of_getElem? (i := 1126) (by decide +kernel), List.mem_of_getElem? (i := 1456) (by decide +kernel), List.mem_of_getElem? (i := 1457) (by decide +kernel)⟩
theorem lw_p105 : lw_okq (⟨"PegCourtModel", "trees", "(I)V"⟩, 53) := ⟨⟨by decide +kernel, by decide +kernel⟩, List.mem_of_getElem? (i := 1126) (by decide +kernel), List.mem_of_getElem? (i := 1460) (by decide +kernel), List.mem_of_getElem? (i := 1461) (by decide +kernel)⟩
theorem lw_p106 : lw_okq (⟨"PegCourtModel", "isIn", "(II)Z"⟩, 53) := ⟨⟨by decide +kernel, by decide +kernel⟩, List.mem_of_getElem? (i := 1126) (by decide +kernel), List.mem_of_getElem? (i := 1464) (by decide +kernel), List.mem_of_getElem? (i := 1465) (by decide +kernel)⟩
theorem lw_p107 : lw_okq (⟨"PegCourtModel", "split", "(II)I"⟩, 53) := ⟨⟨by decide +kernel, by decide +kernel⟩, List.mem_of_getElem? (i := 1126) (by decide +kernel), List.mem_of_getElem? (i := 1468) (by decide +kernel), List.mem_of_getElem? (i := 1469) (by decide +kernel)⟩
theorem lw_p108 : lw_okq (⟨"PegCourtModel", "asked", "(II)I"⟩, 53) := ⟨⟨by decide +kernel, by decide +kernel⟩, List.mem_of_getElem? (i := 1126) (by decide +kernel), List.mem_of_getElem? (i := 1476) (by decide +kernel), List.mem_of_getElem? (i := 1477) (by decide +kernel)⟩
theorem lw_p109 : lw_okq (⟨"PegCourtModel", "judged", "()I"⟩, 53) := ⟨⟨by decide +kernel, by decide +kernel⟩, List.mem_of_getElem? (i := 1126) (by decide +kernel), List.mem_of_getElem? (i := 1507) (by decide +kernel), List.mem_of_getElem? (i := 1508) (by decide +kernel)⟩
theorem lw_p110 : lw_okq (⟨"PegCourtModel", "isWhole", "(I)Z"⟩, 53) := ⟨⟨by decide +kernel, by decide +kernel⟩, List.mem_of_getElem? (i := 1126) (by decide +kernel), List.mem_of_getElem? (i := 1511) (by decide +kernel), List.mem_of_getElem? (i := 1512) (by decide +kernel)⟩
theorem lw_p111 : lw_okq (⟨"PegCourtModel", "isMeant", "(II)Z"⟩, 53) := ⟨⟨by decide +kernel, by decide +kernel⟩, List.mem_of_getElem? (i := 1126) (by decide +kernel), List.mem_of_getElem? (i := 1515) (by decide +kernel), List.mem_of_getElem? (i := 1516) (by decide +kernel)⟩
def lw_privs_7 : List (MethodName × Nat) := [(⟨"PegCourtModel", "answers", "(I)I"⟩, 53), (⟨"PegCourtModel", "guessHand", "()V"⟩, 53), (⟨"PegCourtModel", "guessCode", "(I)V"⟩, 53), (⟨"PegCourtModel", "mayAnswer", "(I)Z"⟩, 53), (⟨"PegCourtModel", "quarrels", "(I)V"⟩, 53), (⟨"PegCourtModel", "partsOf", "()I"⟩, 53), (⟨"PegCourtModel", "isLeft", "(I)Z"⟩, 53), (⟨"PegCourtModel", "turned", "(I)I"⟩, 53), (⟨"PegCourtModel", "refusedTree", "(I)I"⟩, 53), (⟨"PegCourtModel", "trees", "(I)V"⟩, 53), (⟨"PegCourtModel", "isIn", "(II)Z"⟩, 53), (⟨"PegCourtModel", "split", "(II)I"⟩, 53), (⟨"PegCourtModel", "asked", "(II)I"⟩, 53), (⟨"PegCourtModel", "judged", "()I"⟩, 53), (⟨"PegCourtModel", "isWhole", "(I)Z"⟩, 53), (⟨"PegCourtModel", "isMeant", "(II)Z"⟩, 53)]
theorem lw_r7 : ∀ q ∈ lw_privs_7, lw_okq q := List.forall_mem_cons.mpr ⟨lw_p96, List.forall_mem_cons.mpr ⟨lw_p97, List.forall_mem_cons.mpr ⟨lw_p98, List.forall_mem_cons.mpr ⟨lw_p99, List.forall_mem_cons.mpr ⟨lw_p100, List.forall_mem_cons.mpr ⟨lw_p101, List.forall_mem_cons.mpr ⟨lw_p102, List.forall_mem_cons.mpr ⟨lw_p103, List.forall_mem_cons.mpr ⟨lw_p104, List.forall_mem_cons.mpr ⟨lw_p105, List.forall_mem_cons.mpr ⟨lw_p106, List.forall_mem_cons.mpr ⟨lw_p107, List.forall_mem_cons.mpr ⟨lw_p108, List.forall_mem_cons.mpr ⟨lw_p109, List.forall_mem_cons.mpr ⟨lw_p110, List.forall_mem_cons.mpr ⟨lw_p111, fun _ h => absurd h List.not_mem_nil⟩⟩⟩⟩⟩⟩⟩⟩⟩⟩⟩⟩⟩⟩⟩⟩
theorem lw_p112 : lw_okq (⟨"PegCourtModel", "weight", "(I)I"⟩, 53) := ⟨⟨by decide +kernel, by decide +kernel⟩, List.mem_of_getElem? (i := 1126) (by decide +kernel), List.mem_of_getElem? (i := 1562) (by decide +kernel), List.mem_of_getElem? (i := 1563) (by decide +kernel)⟩
theorem lw_p113 : lw_okq (⟨"PegCourtModel", "pegs", "(I)I"⟩, 53) := ⟨⟨by decide +kernel, by decide +kernel⟩, List.mem_of_getElem? (i := 1126) (by decide +kernel), List.mem_of_getElem? (i := 1566) (by decide +kernel), List.mem_of_getElem? (i := 1567) (by decide +kernel)⟩
def lw_privs_8 : List (MethodName × Nat) := [(⟨"PegCourtModel", "weight", "(I)I"⟩, 53), (⟨"PegCourtModel", "pegs", "(I)I"⟩, 53)]
theorem lw_r8 : ∀ q ∈ lw_privs_8, lw_okq q := List.forall_mem_cons.mpr ⟨lw_p112, List.forall_mem_cons.mpr ⟨lw_p113, fun _ h => absurd h List.not_mem_nil⟩⟩
def lw_privs : List (MethodName × Nat) := lw_privs_1 ++ (lw_privs_2 ++ (lw_privs_3 ++ (lw_privs_4 ++ (lw_privs_5 ++ (lw_privs_6 ++ (lw_privs_7 ++ (lw_privs_8)))))))
def lw_tbl : List Cond := k2_sels lw_privs ++ tables_1
theorem lw_privs_ok : ∀ q ∈ lw_privs, lw_okq q := by
  show ∀ q ∈ lw_privs_1 ++ (lw_privs_2 ++ (lw_privs_3 ++ (lw_privs_4 ++ (lw_privs_5 ++ (lw_privs_6 ++ (lw_privs_7 ++ (lw_privs_8))))))), lw_okq q
  exact List.forall_mem_append.mpr ⟨lw_r1, List.forall_mem_append.mpr ⟨lw_r2, List.forall_mem_append.mpr ⟨lw_r3, List.forall_mem_append.mpr ⟨lw_r4, List.forall_mem_append.mpr ⟨lw_r5, List.forall_mem_append.mpr ⟨lw_r6, List.forall_mem_append.mpr ⟨lw_r7, lw_r8⟩⟩⟩⟩⟩⟩⟩
end
section
def RX0 : String := "PegCourt$CodeBook"
def TX0 : u_T := fun k => match k with
  | 0 => ("PegCourt$CodeBook", "places", "I", false)
  | 1 => ("PegCourt$CodeBook", "colours", "I", false)
  | 2 => ("PegCourt$CodeBook", "size", "I", false)
  | 3 => ("PegCourt$CodeBook", "spots", "[I", true)
  | 4 => ("PegCourt$CodeBook", "shares", "[I", true)
  | 5 => ("PegCourt$CodeBook", "packs", "[I", true)
  | _ => ("PegCourt$CodeBook", "pen", "LPegCourt$Guess;", true)
def tyX0 : Nat → FieldType := fun k => match k with
  | 0 => .int
  | 1 => .int
  | 2 => .int
  | 3 => .array .int
  | 4 => .array .int
  | 5 => .array .int
  | _ => .object "PegCourt$Guess"
abbrev wsX00 : List Cond := u_ws RX0 TX0 7
theorem nmX0 : ∀ a, a < 7 → ∀ b, b < 7 → a ≠ b → (TX0 a).2.1 ≠ (TX0 b).2.1 := by decide +kernel
theorem tyX0_ok : ∀ k, k < 7 → parseFieldDescriptor (TX0 k).2.2.1 = some (tyX0 k) := by decide +kernel
abbrev cX0_init : ByteArray := prog_2_method_1_code
def yX0_init : MethodName := ⟨RX0, "<init>", "()V"⟩
abbrev cX0_codesOf : ByteArray := prog_2_method_2_code
def yX0_codesOf : MethodName := ⟨RX0, "codesOf", "(II)I"⟩
abbrev cX0_write : ByteArray := prog_2_method_3_code
def yX0_write : MethodName := ⟨RX0, "write", "(II)V"⟩
abbrev cX0_has : ByteArray := prog_2_method_4_code
def yX0_has : MethodName := ⟨RX0, "has", "(I)Z"⟩
abbrev cX0_hasPlace : ByteArray := prog_2_method_5_code
def yX0_hasPlace : MethodName := ⟨RX0, "hasPlace", "(I)Z"⟩
abbrev cX0_isPeg : ByteArray := prog_2_method_6_code
def yX0_isPeg : MethodName := ⟨RX0, "isPeg", "(I)Z"⟩
abbrev cX0_canBeTold : ByteArray := prog_2_method_7_code
def yX0_canBeTold : MethodName := ⟨RX0, "canBeTold", "(I)Z"⟩
abbrev cX0_fullAnswer : ByteArray := prog_2_method_8_code
def yX0_fullAnswer : MethodName := ⟨RX0, "fullAnswer", "()I"⟩
abbrev cX0_colourAt : ByteArray := prog_2_method_9_code
def yX0_colourAt : MethodName := ⟨RX0, "colourAt", "(II)I"⟩
abbrev cX0_answerTo : ByteArray := prog_2_method_10_code
def yX0_answerTo : MethodName := ⟨RX0, "answerTo", "(III)I"⟩
abbrev cX0_answerOfCodes : ByteArray := prog_2_method_11_code
def yX0_answerOfCodes : MethodName := ⟨RX0, "answerOfCodes", "(II)I"⟩
abbrev cX0_numberOf : ByteArray := prog_2_method_12_code
def yX0_numberOf : MethodName := ⟨RX0, "numberOf", "(LPegCourt$Guess;)I"⟩
abbrev cX0_hasColourTwice : ByteArray := prog_2_method_13_code
def yX0_hasColourTwice : MethodName := ⟨RX0, "hasColourTwice", "(I)Z"⟩
abbrev cX0_sumOfColours : ByteArray := prog_2_method_14_code
def yX0_sumOfColours : MethodName := ⟨RX0, "sumOfColours", "(I)I"⟩
def RX1 : String := "PegCourt$Forest"
def TX1 : u_T := fun k => match k with
  | 0 => ("PegCourt$Forest", "book", "LPegCourt$CodeBook;", true)
  | 1 => ("PegCourt$Forest", "anyCode", "Z", true)
  | 2 => ("PegCourt$Forest", "codes", "[I", true)
  | 3 => ("PegCourt$Forest", "members", "I", false)
  | 4 => ("PegCourt$Forest", "places", "I", false)
  | 5 => ("PegCourt$Forest", "colours", "I", false)
  | 6 => ("PegCourt$Forest", "entries", "I", false)
  | 7 => ("PegCourt$Forest", "guesses", "[I", true)
  | 8 => ("PegCourt$Forest", "owns", "[I", true)
  | 9 => ("PegCourt$Forest", "classCounts", "[I", true)
  | 10 => ("PegCourt$Forest", "classes", "[I", true)
  | 11 => ("PegCourt$Forest", "shapes", "[J", true)
  | 12 => ("PegCourt$Forest", "slots", "[I", true)
  | 13 => ("PegCourt$Forest", "classOfAnswer", "[I", true)
  | _ => ("PegCourt$Forest", "memo", "[I", true)
def tyX1 : Nat → FieldType := fun k => match k with
  | 0 => .object "PegCourt$CodeBook"
  | 1 => .boolean
  | 2 => .array .int
  | 3 => .int
  | 4 => .int
  | 5 => .int
  | 6 => .int
  | 7 => .array .int
  | 8 => .array .int
  | 9 => .array .int
  | 10 => .array .int
  | 11 => .array .long
  | 12 => .array .int
  | 13 => .array .int
  | _ => .array .int
abbrev wsX10 : List Cond := u_ws RX1 TX1 15
theorem nmX1 : ∀ a, a < 15 → ∀ b, b < 15 → a ≠ b → (TX1 a).2.1 ≠ (TX1 b).2.1 := by decide +kernel
theorem tyX1_ok : ∀ k, k < 15 → parseFieldDescriptor (TX1 k).2.2.1 = some (tyX1 k) := by decide +kernel
abbrev cX1_init : ByteArray := prog_3_method_1_code
def yX1_init : MethodName := ⟨RX1, "<init>", "(LPegCourt$CodeBook;Z)V"⟩
abbrev cX1_standFor : ByteArray := prog_3_method_2_code
def yX1_standFor : MethodName := ⟨RX1, "standFor", "(LPegCourt$Play;)V"⟩
abbrev cX1_standsFor : ByteArray := prog_3_method_3_code
def yX1_standsFor : MethodName := ⟨RX1, "standsFor", "(LPegCourt$Play;)Z"⟩
abbrev cX1_enter : ByteArray := prog_3_method_4_code
def yX1_enter : MethodName := ⟨RX1, "enter", "(I)V"⟩
abbrev cX1_classify : ByteArray := prog_3_method_5_code
def yX1_classify : MethodName := ⟨RX1, "classify", "(I)J"⟩
abbrev cX1_slotOf : ByteArray := prog_3_method_6_code
def yX1_slotOf : MethodName := ⟨RX1, "slotOf", "(J)I"⟩
abbrev cX1_bitOf : ByteArray := prog_3_method_7_code
def yX1_bitOf : MethodName := ⟨RX1, "bitOf", "(I)I"⟩
abbrev cX1_allMembers : ByteArray := prog_3_method_8_code
def yX1_allMembers : MethodName := ⟨RX1, "allMembers", "()I"⟩
abbrev cX1_bounded : ByteArray := prog_3_method_9_code
def yX1_bounded : MethodName := ⟨RX1, "bounded", "(I)I"⟩
abbrev cX1_leastSumWithin : ByteArray := prog_3_method_10_code
def yX1_leastSumWithin : MethodName := ⟨RX1, "leastSumWithin", "(I)I"⟩
abbrev cX1_firstOfLeastSum : ByteArray := prog_3_method_11_code
def yX1_firstOfLeastSum : MethodName := ⟨RX1, "firstOfLeastSum", "(I)I"⟩
abbrev cX1_leastDepth : ByteArray := prog_3_method_12_code
def yX1_leastDepth : MethodName := ⟨RX1, "leastDepth", "()I"⟩
abbrev cX1_firstOfLeastDepth : ByteArray := prog_3_method_13_code
def yX1_firstOfLeastDepth : MethodName := ⟨RX1, "firstOfLeastDepth", "()I"⟩
abbrev cX1_leastSum : ByteArray := prog_3_method_14_code
def yX1_leastSum : MethodName := ⟨RX1, "leastSum", "(II)I"⟩
abbrev cX1_shortOf : ByteArray := prog_3_method_15_code
def yX1_shortOf : MethodName := ⟨RX1, "shortOf", "(II)I"⟩
abbrev cX1_findShort : ByteArray := prog_3_method_16_code
def yX1_findShort : MethodName := ⟨RX1, "findShort", "(II)I"⟩
abbrev cX1_sumBehind : ByteArray := prog_3_method_17_code
def yX1_sumBehind : MethodName := ⟨RX1, "sumBehind", "(IIII)I"⟩
abbrev cX1_classesIn : ByteArray := prog_3_method_18_code
def yX1_classesIn : MethodName := ⟨RX1, "classesIn", "(II)I"⟩
abbrev cX1_shortGuess : ByteArray := prog_3_method_19_code
def yX1_shortGuess : MethodName := ⟨RX1, "shortGuess", "(II)I"⟩
abbrev cX1_plant : ByteArray := prog_3_method_20_code
def yX1_plant : MethodName := ⟨RX1, "plant", "(LPegCourt$Tree;I)V"⟩
abbrev cX1_grow : ByteArray := prog_3_method_21_code
def yX1_grow : MethodName := ⟨RX1, "grow", "(LPegCourt$Tree;IIII)V"⟩
abbrev cX1_nextAnswer : ByteArray := prog_3_method_22_code
def yX1_nextAnswer : MethodName := ⟨RX1, "nextAnswer", "(III)I"⟩
abbrev cX1_withAnswer : ByteArray := prog_3_method_23_code
def yX1_withAnswer : MethodName := ⟨RX1, "withAnswer", "(III)I"⟩
def RX2 : String := "PegCourt$Guess"
def TX2 : u_T := fun k => match k with
  | 0 => ("PegCourt$Guess", "pegs", "[I", true)
  | 1 => ("PegCourt$Guess", "spots", "I", false)
  | _ => ("PegCourt$Guess", "shares", "I", false)
def tyX2 : Nat → FieldType := fun k => match k with
  | 0 => .array .int
  | 1 => .int
  | _ => .int
abbrev wsX20 : List Cond := u_ws RX2 TX2 3
theorem nmX2 : ∀ a, a < 3 → ∀ b, b < 3 → a ≠ b → (TX2 a).2.1 ≠ (TX2 b).2.1 := by decide +kernel
theorem tyX2_ok : ∀ k, k < 3 → parseFieldDescriptor (TX2 k).2.2.1 = some (tyX2 k) := by decide +kernel
abbrev cX2_init : ByteArray := prog_4_method_1_code
def yX2_init : MethodName := ⟨RX2, "<init>", "()V"⟩
abbrev cX2_fillWith : ByteArray := prog_4_method_2_code
def yX2_fillWith : MethodName := ⟨RX2, "fillWith", "(I)V"⟩
abbrev cX2_measure : ByteArray := prog_4_method_3_code
def yX2_measure : MethodName := ⟨RX2, "measure", "(II)V"⟩
abbrev cX2_packed : ByteArray := prog_4_method_4_code
def yX2_packed : MethodName := ⟨RX2, "packed", "(I)I"⟩
abbrev cX2_stepOn : ByteArray := prog_4_method_5_code
def yX2_stepOn : MethodName := ⟨RX2, "stepOn", "(II)V"⟩
def RX3 : String := "PegCourt$Parts"
def TX3 : u_T := fun k => match k with
  | 0 => ("PegCourt$Parts", "sizes", "[I", true)
  | 1 => ("PegCourt$Parts", "number", "I", false)
  | _ => ("PegCourt$Parts", "greatest", "I", false)
def tyX3 : Nat → FieldType := fun k => match k with
  | 0 => .array .int
  | 1 => .int
  | _ => .int
abbrev wsX30 : List Cond := u_ws RX3 TX3 3
theorem nmX3 : ∀ a, a < 3 → ∀ b, b < 3 → a ≠ b → (TX3 a).2.1 ≠ (TX3 b).2.1 := by decide +kernel
theorem tyX3_ok : ∀ k, k < 3 → parseFieldDescriptor (TX3 k).2.2.1 = some (tyX3 k) := by decide +kernel
abbrev cX3_init : ByteArray := prog_5_method_1_code
def yX3_init : MethodName := ⟨RX3, "<init>", "()V"⟩
abbrev cX3_divide : ByteArray := prog_5_method_2_code
def yX3_divide : MethodName := ⟨RX3, "divide", "(LPegCourt$Play;II)V"⟩
abbrev cX3_answerOfPart : ByteArray := prog_5_method_3_code
def yX3_answerOfPart : MethodName := ⟨RX3, "answerOfPart", "(I)I"⟩
def RX4 : String := "PegCourt$Plan"
def TX4 : u_T := fun k => match k with
  | 0 => ("PegCourt$Plan", "parents", "[I", true)
  | 1 => ("PegCourt$Plan", "answers", "[I", true)
  | 2 => ("PegCourt$Plan", "guesses", "[I", true)
  | 3 => ("PegCourt$Plan", "levels", "[I", true)
  | 4 => ("PegCourt$Plan", "planned", "[J", true)
  | 5 => ("PegCourt$Plan", "plannedTwice", "[Z", true)
  | 6 => ("PegCourt$Plan", "wanted", "[J", true)
  | 7 => ("PegCourt$Plan", "replies", "[I", true)
  | 8 => ("PegCourt$Plan", "nodes", "I", false)
  | 9 => ("PegCourt$Plan", "deepest", "I", false)
  | _ => ("PegCourt$Plan", "guessesMade", "I", false)
def tyX4 : Nat → FieldType := fun k => match k with
  | 0 => .array .int
  | 1 => .array .int
  | 2 => .array .int
  | 3 => .array .int
  | 4 => .array .long
  | 5 => .array .boolean
  | 6 => .array .long
  | 7 => .array .int
  | 8 => .int
  | 9 => .int
  | _ => .int
abbrev wsX40 : List Cond := u_ws RX4 TX4 11
theorem nmX4 : ∀ a, a < 11 → ∀ b, b < 11 → a ≠ b → (TX4 a).2.1 ≠ (TX4 b).2.1 := by decide +kernel
theorem tyX4_ok : ∀ k, k < 11 → parseFieldDescriptor (TX4 k).2.2.1 = some (tyX4 k) := by decide +kernel
abbrev cX4_init : ByteArray := prog_6_method_1_code
def yX4_init : MethodName := ⟨RX4, "<init>", "()V"⟩
abbrev cX4_empty : ByteArray := prog_6_method_2_code
def yX4_empty : MethodName := ⟨RX4, "empty", "()V"⟩
abbrev cX4_has : ByteArray := prog_6_method_3_code
def yX4_has : MethodName := ⟨RX4, "has", "(I)Z"⟩
abbrev cX4_add : ByteArray := prog_6_method_4_code
def yX4_add : MethodName := ⟨RX4, "add", "(III)V"⟩
abbrev cX4_follow : ByteArray := prog_6_method_5_code
def yX4_follow : MethodName := ⟨RX4, "follow", "(LPegCourt$Play;)V"⟩
abbrev cX4_followCode : ByteArray := prog_6_method_6_code
def yX4_followCode : MethodName := ⟨RX4, "followCode", "(LPegCourt$CodeBook;I)V"⟩
abbrev cX4_firstNotWhole : ByteArray := prog_6_method_7_code
def yX4_firstNotWhole : MethodName := ⟨RX4, "firstNotWhole", "()I"⟩
def RX5 : String := "PegCourt$Play"
def TX5 : u_T := fun k => match k with
  | 0 => ("PegCourt$Play", "book", "LPegCourt$CodeBook;", true)
  | 1 => ("PegCourt$Play", "finder", "LPegCourt$QuarrelFinder;", true)
  | 2 => ("PegCourt$Play", "pegs", "[I", true)
  | 3 => ("PegCourt$Play", "answers", "[I", true)
  | 4 => ("PegCourt$Play", "listed", "[Z", true)
  | 5 => ("PegCourt$Play", "allowed", "[Z", true)
  | 6 => ("PegCourt$Play", "falseTurns", "[I", true)
  | 7 => ("PegCourt$Play", "left", "[I", true)
  | 8 => ("PegCourt$Play", "law", "I", false)
  | 9 => ("PegCourt$Play", "told", "I", false)
  | 10 => ("PegCourt$Play", "lies", "I", false)
  | 11 => ("PegCourt$Play", "listSize", "I", false)
  | 12 => ("PegCourt$Play", "allowedCount", "I", false)
  | 13 => ("PegCourt$Play", "leftCount", "I", false)
  | 14 => ("PegCourt$Play", "turns", "I", false)
  | 15 => ("PegCourt$Play", "quarrel", "I", false)
  | _ => ("PegCourt$Play", "changes", "I", false)
def tyX5 : Nat → FieldType := fun k => match k with
  | 0 => .object "PegCourt$CodeBook"
  | 1 => .object "PegCourt$QuarrelFinder"
  | 2 => .array .int
  | 3 => .array .int
  | 4 => .array .boolean
  | 5 => .array .boolean
  | 6 => .array .int
  | 7 => .array .int
  | 8 => .int
  | 9 => .int
  | 10 => .int
  | 11 => .int
  | 12 => .int
  | 13 => .int
  | 14 => .int
  | 15 => .int
  | _ => .int
abbrev wsX50 : List Cond := u_ws RX5 TX5 17
theorem nmX5 : ∀ a, a < 17 → ∀ b, b < 17 → a ≠ b → (TX5 a).2.1 ≠ (TX5 b).2.1 := by decide +kernel
theorem tyX5_ok : ∀ k, k < 17 → parseFieldDescriptor (TX5 k).2.2.1 = some (tyX5 k) := by decide +kernel
abbrev cX5_init : ByteArray := prog_7_method_1_code
def yX5_init : MethodName := ⟨RX5, "<init>", "(LPegCourt$CodeBook;)V"⟩
abbrev cX5_startAnew : ByteArray := prog_7_method_2_code
def yX5_startAnew : MethodName := ⟨RX5, "startAnew", "()V"⟩
abbrev cX5_setLaw : ByteArray := prog_7_method_3_code
def yX5_setLaw : MethodName := ⟨RX5, "setLaw", "(II)V"⟩
abbrev cX5_isLawful : ByteArray := prog_7_method_4_code
def yX5_isLawful : MethodName := ⟨RX5, "isLawful", "(I)Z"⟩
abbrev cX5_addToList : ByteArray := prog_7_method_5_code
def yX5_addToList : MethodName := ⟨RX5, "addToList", "(I)V"⟩
abbrev cX5_setLies : ByteArray := prog_7_method_6_code
def yX5_setLies : MethodName := ⟨RX5, "setLies", "(I)V"⟩
abbrev cX5_isLeft : ByteArray := prog_7_method_7_code
def yX5_isLeft : MethodName := ⟨RX5, "isLeft", "(I)Z"⟩
abbrev cX5_findLeft : ByteArray := prog_7_method_8_code
def yX5_findLeft : MethodName := ⟨RX5, "findLeft", "()V"⟩
abbrev cX5_anyLeft : ByteArray := prog_7_method_9_code
def yX5_anyLeft : MethodName := ⟨RX5, "anyLeft", "()Z"⟩
abbrev cX5_accepts : ByteArray := prog_7_method_10_code
def yX5_accepts : MethodName := ⟨RX5, "accepts", "(LPegCourt$Guess;I)Z"⟩
abbrev cX5_takeBack : ByteArray := prog_7_method_11_code
def yX5_takeBack : MethodName := ⟨RX5, "takeBack", "()V"⟩
abbrev cX5_markFalse : ByteArray := prog_7_method_12_code
def yX5_markFalse : MethodName := ⟨RX5, "markFalse", "(LPegCourt$Guess;I)V"⟩
abbrev cX5_unmark : ByteArray := prog_7_method_13_code
def yX5_unmark : MethodName := ⟨RX5, "unmark", "()V"⟩
abbrev cX5_leftWithFalse : ByteArray := prog_7_method_14_code
def yX5_leftWithFalse : MethodName := ⟨RX5, "leftWithFalse", "(I)I"⟩
def RX6 : String := "PegCourt$QuarrelFinder"
def TX6 : u_T := fun k => match k with
  | 0 => ("PegCourt$QuarrelFinder", "known", "[Z", true)
  | 1 => ("PegCourt$QuarrelFinder", "falseSets", "[I", true)
  | _ => ("PegCourt$QuarrelFinder", "found", "I", false)
def tyX6 : Nat → FieldType := fun k => match k with
  | 0 => .array .boolean
  | 1 => .array .int
  | _ => .int
abbrev wsX60 : List Cond := u_ws RX6 TX6 3
theorem nmX6 : ∀ a, a < 3 → ∀ b, b < 3 → a ≠ b → (TX6 a).2.1 ≠ (TX6 b).2.1 := by decide +kernel
theorem tyX6_ok : ∀ k, k < 3 → parseFieldDescriptor (TX6 k).2.2.1 = some (tyX6 k) := by decide +kernel
abbrev cX6_init : ByteArray := prog_8_method_1_code
def yX6_init : MethodName := ⟨RX6, "<init>", "()V"⟩
abbrev cX6_leastQuarrel : ByteArray := prog_8_method_2_code
def yX6_leastQuarrel : MethodName := ⟨RX6, "leastQuarrel", "(LPegCourt$Play;I)I"⟩
abbrev cX6_gather : ByteArray := prog_8_method_3_code
def yX6_gather : MethodName := ⟨RX6, "gather", "(LPegCourt$Play;I)V"⟩
abbrev cX6_isQuarrel : ByteArray := prog_8_method_4_code
def yX6_isQuarrel : MethodName := ⟨RX6, "isQuarrel", "(II)Z"⟩
abbrev cX6_bringForward : ByteArray := prog_8_method_5_code
def yX6_bringForward : MethodName := ⟨RX6, "bringForward", "(I)V"⟩
def RX7 : String := "PegCourt$Shelf"
def TX7 : u_T := fun k => match k with
  | 0 => ("PegCourt$Shelf", "cells", "[I", true)
  | 1 => ("PegCourt$Shelf", "holds", "I", false)
  | 2 => ("PegCourt$Shelf", "length", "I", false)
  | _ => ("PegCourt$Shelf", "sort", "I", false)
def tyX7 : Nat → FieldType := fun k => match k with
  | 0 => .array .int
  | 1 => .int
  | 2 => .int
  | _ => .int
abbrev wsX70 : List Cond := u_ws RX7 TX7 4
theorem nmX7 : ∀ a, a < 4 → ∀ b, b < 4 → a ≠ b → (TX7 a).2.1 ≠ (TX7 b).2.1 := by decide +kernel
theorem tyX7_ok : ∀ k, k < 4 → parseFieldDescriptor (TX7 k).2.2.1 = some (tyX7 k) := by decide +kernel
abbrev cX7_init : ByteArray := prog_9_method_1_code
def yX7_init : MethodName := ⟨RX7, "<init>", "()V"⟩
abbrev cX7_holdRow : ByteArray := prog_9_method_2_code
def yX7_holdRow : MethodName := ⟨RX7, "holdRow", "(II)V"⟩
abbrev cX7_holdGuess : ByteArray := prog_9_method_3_code
def yX7_holdGuess : MethodName := ⟨RX7, "holdGuess", "(LPegCourt$Guess;II)V"⟩
abbrev cX7_whyNoRow : ByteArray := prog_9_method_4_code
def yX7_whyNoRow : MethodName := ⟨RX7, "whyNoRow", "()I"⟩
abbrev cX7_whyNoGuess : ByteArray := prog_9_method_5_code
def yX7_whyNoGuess : MethodName := ⟨RX7, "whyNoGuess", "()I"⟩
abbrev cX7_hasCells : ByteArray := prog_9_method_6_code
def yX7_hasCells : MethodName := ⟨RX7, "hasCells", "(II)Z"⟩
abbrev cX7_narrowed : ByteArray := prog_9_method_7_code
def yX7_narrowed : MethodName := ⟨RX7, "narrowed", "(I)I"⟩
abbrev cX7_pegAt : ByteArray := prog_9_method_8_code
def yX7_pegAt : MethodName := ⟨RX7, "pegAt", "(I)I"⟩
abbrev cX7_pegsSet : ByteArray := prog_9_method_9_code
def yX7_pegsSet : MethodName := ⟨RX7, "pegsSet", "()I"⟩
abbrev cX7_weight : ByteArray := prog_9_method_10_code
def yX7_weight : MethodName := ⟨RX7, "weight", "()I"⟩
abbrev cX7_rank : ByteArray := prog_9_method_11_code
def yX7_rank : MethodName := ⟨RX7, "rank", "()I"⟩
abbrev cX7_failIfAnyPeg : ByteArray := prog_9_method_12_code
def yX7_failIfAnyPeg : MethodName := ⟨RX7, "failIfAnyPeg", "()V"⟩
def RX8 : String := "PegCourt$Survey"
def TX8 : u_T := fun k => match k with
  | 0 => ("PegCourt$Survey", "leastGreatest", "I", false)
  | 1 => ("PegCourt$Survey", "mostParts", "I", false)
  | 2 => ("PegCourt$Survey", "codeOfLeast", "I", false)
  | 3 => ("PegCourt$Survey", "codeOfMost", "I", false)
  | _ => ("PegCourt$Survey", "changesSeen", "I", false)
def tyX8 : Nat → FieldType := fun k => match k with
  | 0 => .int
  | 1 => .int
  | 2 => .int
  | 3 => .int
  | _ => .int
abbrev wsX80 : List Cond := u_ws RX8 TX8 5
theorem nmX8 : ∀ a, a < 5 → ∀ b, b < 5 → a ≠ b → (TX8 a).2.1 ≠ (TX8 b).2.1 := by decide +kernel
theorem tyX8_ok : ∀ k, k < 5 → parseFieldDescriptor (TX8 k).2.2.1 = some (tyX8 k) := by decide +kernel
abbrev cX8_init : ByteArray := prog_10_method_1_code
def yX8_init : MethodName := ⟨RX8, "<init>", "()V"⟩
abbrev cX8_look : ByteArray := prog_10_method_2_code
def yX8_look : MethodName := ⟨RX8, "look", "(LPegCourt$Play;LPegCourt$Parts;)V"⟩
def RX9 : String := "PegCourt$Tree"
def TX9 : u_T := fun k => match k with
  | 0 => ("PegCourt$Tree", "guesses", "[I", true)
  | 1 => ("PegCourt$Tree", "origins", "[I", true)
  | 2 => ("PegCourt$Tree", "answers", "[I", true)
  | 3 => ("PegCourt$Tree", "sizes", "[I", true)
  | 4 => ("PegCourt$Tree", "levels", "[I", true)
  | _ => ("PegCourt$Tree", "nodes", "I", false)
def tyX9 : Nat → FieldType := fun k => match k with
  | 0 => .array .int
  | 1 => .array .int
  | 2 => .array .int
  | 3 => .array .int
  | 4 => .array .int
  | _ => .int
abbrev wsX90 : List Cond := u_ws RX9 TX9 6
theorem nmX9 : ∀ a, a < 6 → ∀ b, b < 6 → a ≠ b → (TX9 a).2.1 ≠ (TX9 b).2.1 := by decide +kernel
theorem tyX9_ok : ∀ k, k < 6 → parseFieldDescriptor (TX9 k).2.2.1 = some (tyX9 k) := by decide +kernel
abbrev cX9_init : ByteArray := prog_11_method_1_code
def yX9_init : MethodName := ⟨RX9, "<init>", "()V"⟩
abbrev cX9_add : ByteArray := prog_11_method_2_code
def yX9_add : MethodName := ⟨RX9, "add", "(IIII)V"⟩
def RX10 : String := "PegCourt$Turnings"
def TX10 : u_T := fun k => match k with
  | 0 => ("PegCourt$Turnings", "book", "LPegCourt$CodeBook;", true)
  | 1 => ("PegCourt$Turnings", "placeTo", "[I", true)
  | 2 => ("PegCourt$Turnings", "colourTo", "[I", true)
  | _ => ("PegCourt$Turnings", "worths", "[I", true)
def tyX10 : Nat → FieldType := fun k => match k with
  | 0 => .object "PegCourt$CodeBook"
  | 1 => .array .int
  | 2 => .array .int
  | _ => .array .int
abbrev wsX100 : List Cond := u_ws RX10 TX10 4
theorem nmX10 : ∀ a, a < 4 → ∀ b, b < 4 → a ≠ b → (TX10 a).2.1 ≠ (TX10 b).2.1 := by decide +kernel
theorem tyX10_ok : ∀ k, k < 4 → parseFieldDescriptor (TX10 k).2.2.1 = some (tyX10 k) := by decide +kernel
abbrev cX10_init : ByteArray := prog_12_method_1_code
def yX10_init : MethodName := ⟨RX10, "<init>", "(LPegCourt$CodeBook;)V"⟩
abbrev cX10_leads : ByteArray := prog_12_method_2_code
def yX10_leads : MethodName := ⟨RX10, "leads", "(LPegCourt$Play;II)Z"⟩
abbrev cX10_weighPlaces : ByteArray := prog_12_method_3_code
def yX10_weighPlaces : MethodName := ⟨RX10, "weighPlaces", "()V"⟩
abbrev cX10_imageOf : ByteArray := prog_12_method_4_code
def yX10_imageOf : MethodName := ⟨RX10, "imageOf", "(I)I"⟩
abbrev cX10_keepsLeft : ByteArray := prog_12_method_5_code
def yX10_keepsLeft : MethodName := ⟨RX10, "keepsLeft", "(LPegCourt$Play;)Z"⟩
abbrev cX10_startOrders : ByteArray := prog_12_method_6_code
def yX10_startOrders : MethodName := ⟨RX10, "startOrders", "([II)I"⟩
abbrev cX10_stepOrder : ByteArray := prog_12_method_7_code
def yX10_stepOrder : MethodName := ⟨RX10, "stepOrder", "([II)V"⟩
abbrev cX10_exchange : ByteArray := prog_12_method_8_code
def yX10_exchange : MethodName := ⟨RX10, "exchange", "([III)V"⟩
def RX11 : String := "PegCourt"
def TX11 : u_T := fun k => match k with
  | 0 => ("PegCourt", "book", "LPegCourt$CodeBook;", true)
  | 1 => ("PegCourt", "play", "LPegCourt$Play;", true)
  | 2 => ("PegCourt", "theHand", "LPegCourt$Guess;", true)
  | 3 => ("PegCourt", "parts", "LPegCourt$Parts;", true)
  | 4 => ("PegCourt", "survey", "LPegCourt$Survey;", true)
  | 5 => ("PegCourt", "turnings", "LPegCourt$Turnings;", true)
  | 6 => ("PegCourt", "forestByAny", "LPegCourt$Forest;", true)
  | 7 => ("PegCourt", "forestByOwn", "LPegCourt$Forest;", true)
  | 8 => ("PegCourt", "theTree", "LPegCourt$Tree;", true)
  | 9 => ("PegCourt", "thePlan", "LPegCourt$Plan;", true)
  | 10 => ("PegCourt", "shelves", "[LPegCourt$Shelf;", true)
  | _ => ("PegCourt", "refusals", "I", false)
def tyX11 : Nat → FieldType := fun k => match k with
  | 0 => .object "PegCourt$CodeBook"
  | 1 => .object "PegCourt$Play"
  | 2 => .object "PegCourt$Guess"
  | 3 => .object "PegCourt$Parts"
  | 4 => .object "PegCourt$Survey"
  | 5 => .object "PegCourt$Turnings"
  | 6 => .object "PegCourt$Forest"
  | 7 => .object "PegCourt$Forest"
  | 8 => .object "PegCourt$Tree"
  | 9 => .object "PegCourt$Plan"
  | 10 => .array (.object "PegCourt$Shelf")
  | _ => .int
abbrev wsX110 : List Cond := u_ws RX11 TX11 12
theorem nmX11 : ∀ a, a < 12 → ∀ b, b < 12 → a ≠ b → (TX11 a).2.1 ≠ (TX11 b).2.1 := by decide +kernel
theorem tyX11_ok : ∀ k, k < 12 → parseFieldDescriptor (TX11 k).2.2.1 = some (tyX11 k) := by decide +kernel
abbrev cX11_init : ByteArray := prog_1_method_1_code
def yX11_init : MethodName := ⟨RX11, "<init>", "()V"⟩
abbrev cX11_begin : ByteArray := prog_1_method_2_code
def yX11_begin : MethodName := ⟨RX11, "begin", "(II)I"⟩
abbrev cX11_startAnew : ByteArray := prog_1_method_3_code
def yX11_startAnew : MethodName := ⟨RX11, "startAnew", "(II)V"⟩
abbrev cX11_law : ByteArray := prog_1_method_4_code
def yX11_law : MethodName := ⟨RX11, "law", "(II)I"⟩
abbrev cX11_enlist : ByteArray := prog_1_method_5_code
def yX11_enlist : MethodName := ⟨RX11, "enlist", "(I)I"⟩
abbrev cX11_lies : ByteArray := prog_1_method_6_code
def yX11_lies : MethodName := ⟨RX11, "lies", "(I)I"⟩
abbrev cX11_peg : ByteArray := prog_1_method_7_code
def yX11_peg : MethodName := ⟨RX11, "peg", "(II)I"⟩
abbrev cX11_show : ByteArray := prog_1_method_8_code
def yX11_show : MethodName := ⟨RX11, "show", "(I)I"⟩
abbrev cX11_hand : ByteArray := prog_1_method_9_code
def yX11_hand : MethodName := ⟨RX11, "hand", "(I)I"⟩
abbrev cX11_sort : ByteArray := prog_1_method_10_code
def yX11_sort : MethodName := ⟨RX11, "sort", "()I"⟩
abbrev cX11_sortOfHand : ByteArray := prog_1_method_11_code
def yX11_sortOfHand : MethodName := ⟨RX11, "sortOfHand", "()I"⟩
abbrev cX11_answer : ByteArray := prog_1_method_12_code
def yX11_answer : MethodName := ⟨RX11, "answer", "(II)I"⟩
abbrev cX11_reply : ByteArray := prog_1_method_13_code
def yX11_reply : MethodName := ⟨RX11, "reply", "(I)I"⟩
abbrev cX11_tell : ByteArray := prog_1_method_14_code
def yX11_tell : MethodName := ⟨RX11, "tell", "(I)I"⟩
abbrev cX11_undo : ByteArray := prog_1_method_15_code
def yX11_undo : MethodName := ⟨RX11, "undo", "()I"⟩
abbrev cX11_quarrel : ByteArray := prog_1_method_16_code
def yX11_quarrel : MethodName := ⟨RX11, "quarrel", "(I)I"⟩
abbrev cX11_memberOf : ByteArray := prog_1_method_17_code
def yX11_memberOf : MethodName := ⟨RX11, "memberOf", "(II)I"⟩
abbrev cX11_turn : ByteArray := prog_1_method_18_code
def yX11_turn : MethodName := ⟨RX11, "turn", "(II)I"⟩
abbrev cX11_left : ByteArray := prog_1_method_19_code
def yX11_left : MethodName := ⟨RX11, "left", "(I)I"⟩
abbrev cX11_falses : ByteArray := prog_1_method_20_code
def yX11_falses : MethodName := ⟨RX11, "falses", "(I)I"⟩
abbrev cX11_part : ByteArray := prog_1_method_21_code
def yX11_part : MethodName := ⟨RX11, "part", "(II)I"⟩
abbrev cX11_among : ByteArray := prog_1_method_22_code
def yX11_among : MethodName := ⟨RX11, "among", "(I)I"⟩
abbrev cX11_like : ByteArray := prog_1_method_23_code
def yX11_like : MethodName := ⟨RX11, "like", "(II)I"⟩
abbrev cX11_least : ByteArray := prog_1_method_24_code
def yX11_least : MethodName := ⟨RX11, "least", "(I)I"⟩
abbrev cX11_sum : ByteArray := prog_1_method_25_code
def yX11_sum : MethodName := ⟨RX11, "sum", "(II)I"⟩
abbrev cX11_best : ByteArray := prog_1_method_26_code
def yX11_best : MethodName := ⟨RX11, "best", "(III)I"⟩
abbrev cX11_tree : ByteArray := prog_1_method_27_code
def yX11_tree : MethodName := ⟨RX11, "tree", "(II)I"⟩
abbrev cX11_isPool : ByteArray := prog_1_method_28_code
def yX11_isPool : MethodName := ⟨RX11, "isPool", "(I)Z"⟩
abbrev cX11_isDepth : ByteArray := prog_1_method_29_code
def yX11_isDepth : MethodName := ⟨RX11, "isDepth", "(I)Z"⟩
abbrev cX11_whyNoTrees : ByteArray := prog_1_method_30_code
def yX11_whyNoTrees : MethodName := ⟨RX11, "whyNoTrees", "()I"⟩
abbrev cX11_forestOf : ByteArray := prog_1_method_31_code
def yX11_forestOf : MethodName := ⟨RX11, "forestOf", "(I)LPegCourt$Forest;"⟩
abbrev cX11_node : ByteArray := prog_1_method_32_code
def yX11_node : MethodName := ⟨RX11, "node", "(II)I"⟩
abbrev cX11_plan : ByteArray := prog_1_method_33_code
def yX11_plan : MethodName := ⟨RX11, "plan", "(III)I"⟩
abbrev cX11_drop : ByteArray := prog_1_method_34_code
def yX11_drop : MethodName := ⟨RX11, "drop", "()I"⟩
abbrev cX11_judge : ByteArray := prog_1_method_35_code
def yX11_judge : MethodName := ⟨RX11, "judge", "()I"⟩
abbrev cX11_total : ByteArray := prog_1_method_36_code
def yX11_total : MethodName := ⟨RX11, "total", "()I"⟩
abbrev cX11_rack : ByteArray := prog_1_method_37_code
def yX11_rack : MethodName := ⟨RX11, "rack", "(III)I"⟩
abbrev cX11_keep : ByteArray := prog_1_method_38_code
def yX11_keep : MethodName := ⟨RX11, "keep", "(I)I"⟩
abbrev cX11_clear : ByteArray := prog_1_method_39_code
def yX11_clear : MethodName := ⟨RX11, "clear", "(I)I"⟩
abbrev cX11_put : ByteArray := prog_1_method_40_code
def yX11_put : MethodName := ⟨RX11, "put", "(III)I"⟩
abbrev cX11_at : ByteArray := prog_1_method_41_code
def yX11_at : MethodName := ⟨RX11, "at", "(II)I"⟩
abbrev cX11_copy : ByteArray := prog_1_method_42_code
def yX11_copy : MethodName := ⟨RX11, "copy", "(IIIII)I"⟩
abbrev cX11_take : ByteArray := prog_1_method_43_code
def yX11_take : MethodName := ⟨RX11, "take", "(II)I"⟩
abbrev cX11_kept : ByteArray := prog_1_method_44_code
def yX11_kept : MethodName := ⟨RX11, "kept", "(II)I"⟩
abbrev cX11_toss : ByteArray := prog_1_method_45_code
def yX11_toss : MethodName := ⟨RX11, "toss", "(I)I"⟩
abbrev cX11_isShelf : ByteArray := prog_1_method_46_code
def yX11_isShelf : MethodName := ⟨RX11, "isShelf", "(I)Z"⟩
abbrev cX11_refused : ByteArray := prog_1_method_47_code
def yX11_refused : MethodName := ⟨RX11, "refused", "(I)I"⟩
abbrev cX11_count : ByteArray := prog_1_method_48_code
def yX11_count : MethodName := ⟨RX11, "count", "(I)I"⟩
abbrev cX11_partsOfHand : ByteArray := prog_1_method_49_code
def yX11_partsOfHand : MethodName := ⟨RX11, "partsOfHand", "()I"⟩
def RX12 : String := "PegCourtModel"
def TX12 : u_T := fun k => match k with
  | 0 => ("PegCourtModel", "places", "I", false)
  | 1 => ("PegCourtModel", "colours", "I", false)
  | 2 => ("PegCourtModel", "codes", "I", false)
  | 3 => ("PegCourtModel", "law", "I", false)
  | 4 => ("PegCourtModel", "toldSum", "I", false)
  | 5 => ("PegCourtModel", "lies", "I", false)
  | 6 => ("PegCourtModel", "listed", "[Z", true)
  | 7 => ("PegCourtModel", "listedMany", "I", false)
  | 8 => ("PegCourtModel", "hand", "[I", true)
  | 9 => ("PegCourtModel", "turns", "I", false)
  | 10 => ("PegCourtModel", "turnPegs", "[I", true)
  | 11 => ("PegCourtModel", "turnAnswer", "[I", true)
  | 12 => ("PegCourtModel", "quarrel", "[I", true)
  | 13 => ("PegCourtModel", "quarrelMany", "I", false)
  | 14 => ("PegCourtModel", "refusals", "I", false)
  | 15 => ("PegCourtModel", "thrown", "I", false)
  | 16 => ("PegCourtModel", "guess", "[I", true)
  | 17 => ("PegCourtModel", "left", "[I", true)
  | 18 => ("PegCourtModel", "leftMany", "I", false)
  | 19 => ("PegCourtModel", "falseBits", "[I", true)
  | 20 => ("PegCourtModel", "parts", "[I", true)
  | 21 => ("PegCourtModel", "placeTo", "[I", true)
  | 22 => ("PegCourtModel", "colourTo", "[I", true)
  | 23 => ("PegCourtModel", "made", "[I", true)
  | 24 => ("PegCourtModel", "among", "[Z", true)
  | 25 => ("PegCourtModel", "depths", "[I", true)
  | 26 => ("PegCourtModel", "depthBy", "[I", true)
  | 27 => ("PegCourtModel", "sums", "[I", true)
  | 28 => ("PegCourtModel", "sumBy", "[I", true)
  | 29 => ("PegCourtModel", "answerOf", "[I", true)
  | 30 => ("PegCourtModel", "partSet", "[I", true)
  | 31 => ("PegCourtModel", "partAnswer", "[I", true)
  | 32 => ("PegCourtModel", "partMany", "I", false)
  | 33 => ("PegCourtModel", "nodes", "I", false)
  | 34 => ("PegCourtModel", "nodeGuess", "[I", true)
  | 35 => ("PegCourtModel", "nodeFrom", "[I", true)
  | 36 => ("PegCourtModel", "nodeAnswer", "[I", true)
  | 37 => ("PegCourtModel", "nodeSize", "[I", true)
  | 38 => ("PegCourtModel", "nodeDepth", "[I", true)
  | 39 => ("PegCourtModel", "waitSet", "[I", true)
  | 40 => ("PegCourtModel", "waitFrom", "[I", true)
  | 41 => ("PegCourtModel", "waitAnswer", "[I", true)
  | 42 => ("PegCourtModel", "waitDepth", "[I", true)
  | 43 => ("PegCourtModel", "plans", "I", false)
  | 44 => ("PegCourtModel", "planFrom", "[I", true)
  | 45 => ("PegCourtModel", "planAnswer", "[I", true)
  | 46 => ("PegCourtModel", "planGuess", "[I", true)
  | 47 => ("PegCourtModel", "has", "[I", true)
  | 48 => ("PegCourtModel", "holds", "[I", true)
  | 49 => ("PegCourtModel", "sizes", "[I", true)
  | 50 => ("PegCourtModel", "elements", "[I", true)
  | 51 => ("PegCourtModel", "keptSort", "[I", true)
  | _ => ("PegCourtModel", "carried", "[I", true)
def tyX12 : Nat → FieldType := fun k => match k with
  | 0 => .int
  | 1 => .int
  | 2 => .int
  | 3 => .int
  | 4 => .int
  | 5 => .int
  | 6 => .array .boolean
  | 7 => .int
  | 8 => .array .int
  | 9 => .int
  | 10 => .array .int
  | 11 => .array .int
  | 12 => .array .int
  | 13 => .int
  | 14 => .int
  | 15 => .int
  | 16 => .array .int
  | 17 => .array .int
  | 18 => .int
  | 19 => .array .int
  | 20 => .array .int
  | 21 => .array .int
  | 22 => .array .int
  | 23 => .array .int
  | 24 => .array .boolean
  | 25 => .array .int
  | 26 => .array .int
  | 27 => .array .int
  | 28 => .array .int
  | 29 => .array .int
  | 30 => .array .int
  | 31 => .array .int
  | 32 => .int
  | 33 => .int
  | 34 => .array .int
  | 35 => .array .int
  | 36 => .array .int
  | 37 => .array .int
  | 38 => .array .int
  | 39 => .array .int
  | 40 => .array .int
  | 41 => .array .int
  | 42 => .array .int
  | 43 => .int
  | 44 => .array .int
  | 45 => .array .int
  | 46 => .array .int
  | 47 => .array .int
  | 48 => .array .int
  | 49 => .array .int
  | 50 => .array .int
  | 51 => .array .int
  | _ => .array .int
abbrev wsX120 : List Cond := u_ws RX12 TX12 53
theorem nmX12 : ∀ a, a < 53 → ∀ b, b < 53 → a ≠ b → (TX12 a).2.1 ≠ (TX12 b).2.1 := by decide +kernel
theorem tyX12_ok : ∀ k, k < 53 → parseFieldDescriptor (TX12 k).2.2.1 = some (tyX12 k) := by decide +kernel
abbrev cX12_init : ByteArray := prog_14_method_1_code
def yX12_init : MethodName := ⟨RX12, "<init>", "()V"⟩
abbrev cX12_thrown : ByteArray := prog_14_method_2_code
def yX12_thrown : MethodName := ⟨RX12, "thrown", "()I"⟩
abbrev cX12_in : ByteArray := prog_14_method_3_code
def yX12_in : MethodName := ⟨RX12, "in", "(III)Z"⟩
abbrev cX12_isCode : ByteArray := prog_14_method_4_code
def yX12_isCode : MethodName := ⟨RX12, "isCode", "(I)Z"⟩
abbrev cX12_peg0 : ByteArray := prog_14_method_5_code
def yX12_peg0 : MethodName := ⟨RX12, "peg0", "(II)I"⟩
abbrev cX12_guessCode : ByteArray := prog_14_method_6_code
def yX12_guessCode : MethodName := ⟨RX12, "guessCode", "(I)V"⟩
abbrev cX12_guessHand : ByteArray := prog_14_method_7_code
def yX12_guessHand : MethodName := ⟨RX12, "guessHand", "()V"⟩
abbrev cX12_guessTurn : ByteArray := prog_14_method_8_code
def yX12_guessTurn : MethodName := ⟨RX12, "guessTurn", "(I)V"⟩
abbrev cX12_answers : ByteArray := prog_14_method_9_code
def yX12_answers : MethodName := ⟨RX12, "answers", "(I)I"⟩
abbrev cX12_mayAnswer : ByteArray := prog_14_method_10_code
def yX12_mayAnswer : MethodName := ⟨RX12, "mayAnswer", "(I)Z"⟩
abbrev cX12_isAllowed : ByteArray := prog_14_method_11_code
def yX12_isAllowed : MethodName := ⟨RX12, "isAllowed", "(I)Z"⟩
abbrev cX12_falseOf : ByteArray := prog_14_method_12_code
def yX12_falseOf : MethodName := ⟨RX12, "falseOf", "(II)I"⟩
abbrev cX12_ones : ByteArray := prog_14_method_13_code
def yX12_ones : MethodName := ⟨RX12, "ones", "(I)I"⟩
abbrev cX12_look : ByteArray := prog_14_method_14_code
def yX12_look : MethodName := ⟨RX12, "look", "()V"⟩
abbrev cX12_begin : ByteArray := prog_14_method_15_code
def yX12_begin : MethodName := ⟨RX12, "begin", "(II)I"⟩
abbrev cX12_allowed : ByteArray := prog_14_method_16_code
def yX12_allowed : MethodName := ⟨RX12, "allowed", "()I"⟩
abbrev cX12_law : ByteArray := prog_14_method_17_code
def yX12_law : MethodName := ⟨RX12, "law", "(II)I"⟩
abbrev cX12_enlist : ByteArray := prog_14_method_18_code
def yX12_enlist : MethodName := ⟨RX12, "enlist", "(I)I"⟩
abbrev cX12_lies : ByteArray := prog_14_method_19_code
def yX12_lies : MethodName := ⟨RX12, "lies", "(I)I"⟩
abbrev cX12_found : ByteArray := prog_14_method_20_code
def yX12_found : MethodName := ⟨RX12, "found", "(I)I"⟩
abbrev cX12_peg : ByteArray := prog_14_method_21_code
def yX12_peg : MethodName := ⟨RX12, "peg", "(II)I"⟩
abbrev cX12_show : ByteArray := prog_14_method_22_code
def yX12_show : MethodName := ⟨RX12, "show", "(I)I"⟩
abbrev cX12_hand : ByteArray := prog_14_method_23_code
def yX12_hand : MethodName := ⟨RX12, "hand", "(I)I"⟩
abbrev cX12_sortOf : ByteArray := prog_14_method_24_code
def yX12_sortOf : MethodName := ⟨RX12, "sortOf", "()I"⟩
abbrev cX12_sort : ByteArray := prog_14_method_25_code
def yX12_sort : MethodName := ⟨RX12, "sort", "()I"⟩
abbrev cX12_answer : ByteArray := prog_14_method_26_code
def yX12_answer : MethodName := ⟨RX12, "answer", "(II)I"⟩
abbrev cX12_reply : ByteArray := prog_14_method_27_code
def yX12_reply : MethodName := ⟨RX12, "reply", "(I)I"⟩
abbrev cX12_quarrels : ByteArray := prog_14_method_28_code
def yX12_quarrels : MethodName := ⟨RX12, "quarrels", "(I)V"⟩
abbrev cX12_tell : ByteArray := prog_14_method_29_code
def yX12_tell : MethodName := ⟨RX12, "tell", "(I)I"⟩
abbrev cX12_undo : ByteArray := prog_14_method_30_code
def yX12_undo : MethodName := ⟨RX12, "undo", "()I"⟩
abbrev cX12_quarrel : ByteArray := prog_14_method_31_code
def yX12_quarrel : MethodName := ⟨RX12, "quarrel", "(I)I"⟩
abbrev cX12_turn : ByteArray := prog_14_method_32_code
def yX12_turn : MethodName := ⟨RX12, "turn", "(II)I"⟩
abbrev cX12_left : ByteArray := prog_14_method_33_code
def yX12_left : MethodName := ⟨RX12, "left", "(I)I"⟩
abbrev cX12_falses : ByteArray := prog_14_method_34_code
def yX12_falses : MethodName := ⟨RX12, "falses", "(I)I"⟩
abbrev cX12_partsOf : ByteArray := prog_14_method_35_code
def yX12_partsOf : MethodName := ⟨RX12, "partsOf", "()I"⟩
abbrev cX12_part : ByteArray := prog_14_method_36_code
def yX12_part : MethodName := ⟨RX12, "part", "(II)I"⟩
abbrev cX12_among : ByteArray := prog_14_method_37_code
def yX12_among : MethodName := ⟨RX12, "among", "(I)I"⟩
abbrev cX12_order : ByteArray := prog_14_method_38_code
def yX12_order : MethodName := ⟨RX12, "order", "([III)V"⟩
abbrev cX12_turned : ByteArray := prog_14_method_39_code
def yX12_turned : MethodName := ⟨RX12, "turned", "(I)I"⟩
abbrev cX12_isLeft : ByteArray := prog_14_method_40_code
def yX12_isLeft : MethodName := ⟨RX12, "isLeft", "(I)Z"⟩
abbrev cX12_like : ByteArray := prog_14_method_41_code
def yX12_like : MethodName := ⟨RX12, "like", "(II)I"⟩
abbrev cX12_refusedTree : ByteArray := prog_14_method_42_code
def yX12_refusedTree : MethodName := ⟨RX12, "refusedTree", "(I)I"⟩
abbrev cX12_split : ByteArray := prog_14_method_43_code
def yX12_split : MethodName := ⟨RX12, "split", "(II)I"⟩
abbrev cX12_isIn : ByteArray := prog_14_method_44_code
def yX12_isIn : MethodName := ⟨RX12, "isIn", "(II)Z"⟩
abbrev cX12_trees : ByteArray := prog_14_method_45_code
def yX12_trees : MethodName := ⟨RX12, "trees", "(I)V"⟩
abbrev cX12_row : ByteArray := prog_14_method_46_code
def yX12_row : MethodName := ⟨RX12, "row", "(I)I"⟩
abbrev cX12_least : ByteArray := prog_14_method_47_code
def yX12_least : MethodName := ⟨RX12, "least", "(I)I"⟩
abbrev cX12_asked : ByteArray := prog_14_method_48_code
def yX12_asked : MethodName := ⟨RX12, "asked", "(II)I"⟩
abbrev cX12_sum : ByteArray := prog_14_method_49_code
def yX12_sum : MethodName := ⟨RX12, "sum", "(II)I"⟩
abbrev cX12_best : ByteArray := prog_14_method_50_code
def yX12_best : MethodName := ⟨RX12, "best", "(III)I"⟩
abbrev cX12_tree : ByteArray := prog_14_method_51_code
def yX12_tree : MethodName := ⟨RX12, "tree", "(II)I"⟩
abbrev cX12_node : ByteArray := prog_14_method_52_code
def yX12_node : MethodName := ⟨RX12, "node", "(II)I"⟩
abbrev cX12_plan : ByteArray := prog_14_method_53_code
def yX12_plan : MethodName := ⟨RX12, "plan", "(III)I"⟩
abbrev cX12_drop : ByteArray := prog_14_method_54_code
def yX12_drop : MethodName := ⟨RX12, "drop", "()I"⟩
abbrev cX12_isMeant : ByteArray := prog_14_method_55_code
def yX12_isMeant : MethodName := ⟨RX12, "isMeant", "(II)Z"⟩
abbrev cX12_isWhole : ByteArray := prog_14_method_56_code
def yX12_isWhole : MethodName := ⟨RX12, "isWhole", "(I)Z"⟩
abbrev cX12_judged : ByteArray := prog_14_method_57_code
def yX12_judged : MethodName := ⟨RX12, "judged", "()I"⟩
abbrev cX12_judge : ByteArray := prog_14_method_58_code
def yX12_judge : MethodName := ⟨RX12, "judge", "()I"⟩
abbrev cX12_total : ByteArray := prog_14_method_59_code
def yX12_total : MethodName := ⟨RX12, "total", "()I"⟩
abbrev cX12_isShelf : ByteArray := prog_14_method_60_code
def yX12_isShelf : MethodName := ⟨RX12, "isShelf", "(I)Z"⟩
abbrev cX12_narrow : ByteArray := prog_14_method_61_code
def yX12_narrow : MethodName := ⟨RX12, "narrow", "(II)I"⟩
abbrev cX12_rack : ByteArray := prog_14_method_62_code
def yX12_rack : MethodName := ⟨RX12, "rack", "(III)I"⟩
abbrev cX12_keep : ByteArray := prog_14_method_63_code
def yX12_keep : MethodName := ⟨RX12, "keep", "(I)I"⟩
abbrev cX12_clear : ByteArray := prog_14_method_64_code
def yX12_clear : MethodName := ⟨RX12, "clear", "(I)I"⟩
abbrev cX12_put : ByteArray := prog_14_method_65_code
def yX12_put : MethodName := ⟨RX12, "put", "(III)I"⟩
abbrev cX12_at : ByteArray := prog_14_method_66_code
def yX12_at : MethodName := ⟨RX12, "at", "(II)I"⟩
abbrev cX12_copy : ByteArray := prog_14_method_67_code
def yX12_copy : MethodName := ⟨RX12, "copy", "(IIIII)I"⟩
abbrev cX12_take : ByteArray := prog_14_method_68_code
def yX12_take : MethodName := ⟨RX12, "take", "(II)I"⟩
abbrev cX12_pegs : ByteArray := prog_14_method_69_code
def yX12_pegs : MethodName := ⟨RX12, "pegs", "(I)I"⟩
abbrev cX12_weight : ByteArray := prog_14_method_70_code
def yX12_weight : MethodName := ⟨RX12, "weight", "(I)I"⟩
abbrev cX12_kept : ByteArray := prog_14_method_71_code
def yX12_kept : MethodName := ⟨RX12, "kept", "(II)I"⟩
abbrev cX12_toss : ByteArray := prog_14_method_72_code
def yX12_toss : MethodName := ⟨RX12, "toss", "(I)I"⟩
abbrev cX12_count : ByteArray := prog_14_method_73_code
def yX12_count : MethodName := ⟨RX12, "count", "(I)I"⟩
def RJ6 : String := "java/lang/Integer"
def TJ6 : u_T := fun k => match k with
  | _ => ("", "", "", false)
def tyJ6 : Nat → FieldType := fun k => match k with
  | _ => .int
abbrev wsJ60 : List Cond := u_ws RJ6 TJ6 0
theorem nmJ6 : ∀ a, a < 0 → ∀ b, b < 0 → a ≠ b → (TJ6 a).2.1 ≠ (TJ6 b).2.1 := by decide +kernel
theorem tyJ6_ok : ∀ k, k < 0 → parseFieldDescriptor (TJ6 k).2.2.1 = some (tyJ6 k) := by decide +kernel
abbrev cJ6_bitCount_0f7a4 : ByteArray := prog_18_method_49_code
def yJ6_bitCount_0f7a4 : MethodName := ⟨RJ6, "bitCount", "(I)I"⟩
def RJ9 : String := "java/lang/Math"
def TJ9 : u_T := fun k => match k with
  | _ => ("", "", "", false)
def tyJ9 : Nat → FieldType := fun k => match k with
  | _ => .int
abbrev wsJ90 : List Cond := u_ws RJ9 TJ9 0
theorem nmJ9 : ∀ a, a < 0 → ∀ b, b < 0 → a ≠ b → (TJ9 a).2.1 ≠ (TJ9 b).2.1 := by decide +kernel
theorem tyJ9_ok : ∀ k, k < 0 → parseFieldDescriptor (TJ9 k).2.2.1 = some (tyJ9 k) := by decide +kernel
abbrev cJ9_max_7cf53 : ByteArray := prog_19_method_65_code
def yJ9_max_7cf53 : MethodName := ⟨RJ9, "max", "(II)I"⟩
abbrev cJ9_min_7cf53 : ByteArray := prog_19_method_69_code
def yJ9_min_7cf53 : MethodName := ⟨RJ9, "min", "(II)I"⟩
def RJ0 : String := "java/lang/String"
def TJ0 : u_T := fun k => match k with
  | _ => ("", "", "", false)
def tyJ0 : Nat → FieldType := fun k => match k with
  | _ => .int
abbrev wsJ00 : List Cond := u_ws RJ0 TJ0 0
theorem nmJ0 : ∀ a, a < 0 → ∀ b, b < 0 → a ≠ b → (TJ0 a).2.1 ≠ (TJ0 b).2.1 := by decide +kernel
theorem tyJ0_ok : ∀ k, k < 0 → parseFieldDescriptor (TJ0 k).2.2.1 = some (tyJ0 k) := by decide +kernel
def RJ10 : String := "java/lang/System"
def TJ10 : u_T := fun k => match k with
  | _ => ("", "", "", false)
def tyJ10 : Nat → FieldType := fun k => match k with
  | _ => .int
abbrev wsJ100 : List Cond := u_ws RJ10 TJ10 0
theorem nmJ10 : ∀ a, a < 0 → ∀ b, b < 0 → a ≠ b → (TJ10 a).2.1 ≠ (TJ10 b).2.1 := by decide +kernel
theorem tyJ10_ok : ∀ k, k < 0 → parseFieldDescriptor (TJ10 k).2.2.1 = some (tyJ10 k) := by decide +kernel
def RJ7 : String := "java/util/Arrays"
def TJ7 : u_T := fun k => match k with
  | _ => ("", "", "", false)
def tyJ7 : Nat → FieldType := fun k => match k with
  | _ => .int
abbrev wsJ70 : List Cond := u_ws RJ7 TJ7 0
theorem nmJ7 : ∀ a, a < 0 → ∀ b, b < 0 → a ≠ b → (TJ7 a).2.1 ≠ (TJ7 b).2.1 := by decide +kernel
theorem tyJ7_ok : ∀ k, k < 0 → parseFieldDescriptor (TJ7 k).2.2.1 = some (tyJ7 k) := by decide +kernel
abbrev cJ7_fill_d0a16 : ByteArray := prog_24_method_101_code
def yJ7_fill_d0a16 : MethodName := ⟨RJ7, "fill", "([JJ)V"⟩
abbrev cJ7_fill_53178 : ByteArray := prog_24_method_103_code
def yJ7_fill_53178 : MethodName := ⟨RJ7, "fill", "([II)V"⟩
def RL : String := "PegCourtLaw"
abbrev cL_at : ByteArray := method_3_code
def yL_at : MethodName := ⟨RL, "at", "(LPegCourt;II[J)I"⟩
abbrev cL_law : ByteArray := code
def yL_law : MethodName := ⟨RL, "law", "([I)Z"⟩
abbrev vwCl : List vw_C := [(RX0, TX0, 7), (RX1, TX1, 15), (RX2, TX2, 3), (RX3, TX3, 3), (RX4, TX4, 11), (RX5, TX5, 17), (RX6, TX6, 3), (RX7, TX7, 4), (RX8, TX8, 5), (RX9, TX9, 6), (RX10, TX10, 4), (RX11, TX11, 12), (RX12, TX12, 53)]
end
section
theorem dX0_init_0 : decode cX0_init 0 = .ok (.aload_n 0, 1) := by decide +kernel
theorem dX0_init_1 : decode cX0_init 1 = .ok (.invokespecial 3, 3) := by decide +kernel
theorem dX0_init_4 : decode cX0_init 4 = .ok (.aload_n 0, 1) := by decide +kernel
theorem dX0_init_5 : decode cX0_init 5 = .ok (.sipush 4096, 3) := by decide +kernel
theorem dX0_init_8 : decode cX0_init 8 = .ok (.newarray .int, 2) := by decide +kernel
theorem dX0_init_10 : decode cX0_init 10 = .ok (.putfield 9, 3) := by decide +kernel
theorem dX0_init_13 : decode cX0_init 13 = .ok (.aload_n 0, 1) := by decide +kernel
theorem dX0_init_14 : decode cX0_init 14 = .ok (.sipush 4096, 3) := by decide +kernel
theorem dX0_init_17 : decode cX0_init 17 = .ok (.newarray .int, 2) := by decide +kernel
theorem dX0_init_19 : decode cX0_init 19 = .ok (.putfield 15, 3) := by decide +kernel
theorem dX0_init_22 : decode cX0_init 22 = .ok (.aload_n 0, 1) := by decide +kernel
theorem dX0_init_23 : decode cX0_init 23 = .ok (.sipush 4096, 3) := by decide +kernel
theorem dX0_init_26 : decode cX0_init 26 = .ok (.newarray .int, 2) := by decide +kernel
theorem dX0_init_28 : decode cX0_init 28 = .ok (.putfield 18, 3) := by decide +kernel
theorem dX0_init_31 : decode cX0_init 31 = .ok (.aload_n 0, 1) := by decide +kernel
theorem dX0_init_32 : decode cX0_init 32 = .ok (.new 21, 3) := by decide +kernel
theorem dX0_init_35 : decode cX0_init 35 = .ok (.dup, 1) := by decide +kernel
theorem dX0_init_36 : decode cX0_init 36 = .ok (.invokespecial 23, 3) := by decide +kernel
theorem dX0_init_39 : decode cX0_init 39 = .ok (.putfield 24, 3) := by decide +kernel
theorem dX0_init_42 : decode cX0_init 42 = .ok (.return_, 1) := by decide +kernel
theorem dX0_codesOf_0 : decode cX0_codesOf 0 = .ok (.iconst 1, 1) := by decide +kernel
theorem dX0_codesOf_1 : decode cX0_codesOf 1 = .ok (.istore_n 2, 1) := by decide +kernel
theorem dX0_codesOf_2 : decode cX0_codesOf 2 = .ok (.iconst 0, 1) := by decide +kernel
theorem dX0_codesOf_3 : decode cX0_codesOf 3 = .ok (.istore_n 3, 1) := by decide +kernel
theorem dX0_codesOf_4 : decode cX0_codesOf 4 = .ok (.iload_n 3, 1) := by decide +kernel
theorem dX0_codesOf_5 : decode cX0_codesOf 5 = .ok (.iload_n 0, 1) := by decide +kernel
theorem dX0_codesOf_6 : decode cX0_codesOf 6 = .ok (.if_icmp .ge 13, 3) := by decide +kernel
theorem dX0_codesOf_9 : decode cX0_codesOf 9 = .ok (.iload_n 2, 1) := by decide +kernel
theorem dX0_codesOf_10 : decode cX0_codesOf 10 = .ok (.iload_n 1, 1) := by decide +kernel
theorem dX0_codesOf_11 : decode cX0_codesOf 11 = .ok (.imul, 1) := by decide +kernel
theorem dX0_codesOf_12 : decode cX0_codesOf 12 = .ok (.istore_n 2, 1) := by decide +kernel
theorem dX0_codesOf_13 : decode cX0_codesOf 13 = .ok (.iinc 3 1, 3) := by decide +kernel
theorem dX0_codesOf_16 : decode cX0_codesOf 16 = .ok (.goto (-12), 3) := by decide +kernel
theorem dX0_codesOf_19 : decode cX0_codesOf 19 = .ok (.iload_n 2, 1) := by decide +kernel
theorem dX0_codesOf_20 : decode cX0_codesOf 20 = .ok (.ireturn, 1) := by decide +kernel
theorem dX0_write_0 : decode cX0_write 0 = .ok (.aload_n 0, 1) := by decide +kernel
theorem dX0_write_1 : decode cX0_write 1 = .ok (.iload_n 1, 1) := by decide +kernel
theorem dX0_write_2 : decode cX0_write 2 = .ok (.putfield 28, 3) := by decide +kernel
theorem dX0_write_5 : decode cX0_write 5 = .ok (.aload_n 0, 1) := by decide +kernel
theorem dX0_write_6 : decode cX0_write 6 = .ok (.iload_n 2, 1) := by decide +kernel
theorem dX0_write_7 : decode cX0_write 7 = .ok (.putfield 32, 3) := by decide +kernel
theorem dX0_write_10 : decode cX0_write 10 = .ok (.aload_n 0, 1) := by decide +kernel
theorem dX0_write_11 : decode cX0_write 11 = .ok (.iload_n 1, 1) := by decide +kernel
theorem dX0_write_12 : decode cX0_write 12 = .ok (.iload_n 2, 1) := by decide +kernel
theorem dX0_write_13 : decode cX0_write 13 = .ok (.invokestatic 35, 3) := by decide +kernel
theorem dX0_write_16 : decode cX0_write 16 = .ok (.putfield 39, 3) := by decide +kernel
theorem dX0_write_19 : decode cX0_write 19 = .ok (.aload_n 0, 1) := by decide +kernel
theorem dX0_write_20 : decode cX0_write 20 = .ok (.getfield 24, 3) := by decide +kernel
theorem dX0_write_23 : decode cX0_write 23 = .ok (.iconst 0, 1) := by decide +kernel
theorem dX0_write_24 : decode cX0_write 24 = .ok (.invokevirtual 42, 3) := by decide +kernel
theorem dX0_write_27 : decode cX0_write 27 = .ok (.iconst 0, 1) := by decide +kernel
theorem dX0_write_28 : decode cX0_write 28 = .ok (.istore_n 3, 1) := by decide +kernel
theorem dX0_write_29 : decode cX0_write 29 = .ok (.iload_n 3, 1) := by decide +kernel
theorem dX0_write_30 : decode cX0_write 30 = .ok (.aload_n 0, 1) := by decide +kernel
theorem dX0_write_31 : decode cX0_write 31 = .ok (.getfield 39, 3) := by decide +kernel
theorem dX0_write_34 : decode cX0_write 34 = .ok (.if_icmp .ge 82, 3) := by decide +kernel
theorem dX0_write_37 : decode cX0_write 37 = .ok (.aload_n 0, 1) := by decide +kernel
theorem dX0_write_38 : decode cX0_write 38 = .ok (.getfield 24, 3) := by decide +kernel
theorem dX0_write_41 : decode cX0_write 41 = .ok (.aload_n 0, 1) := by decide +kernel
theorem dX0_write_42 : decode cX0_write 42 = .ok (.getfield 28, 3) := by decide +kernel
theorem dX0_write_45 : decode cX0_write 45 = .ok (.aload_n 0, 1) := by decide +kernel
theorem dX0_write_46 : decode cX0_write 46 = .ok (.getfield 32, 3) := by decide +kernel
theorem dX0_write_49 : decode cX0_write 49 = .ok (.invokevirtual 46, 3) := by decide +kernel
theorem dX0_write_52 : decode cX0_write 52 = .ok (.aload_n 0, 1) := by decide +kernel
theorem dX0_write_53 : decode cX0_write 53 = .ok (.getfield 9, 3) := by decide +kernel
theorem dX0_write_56 : decode cX0_write 56 = .ok (.iload_n 3, 1) := by decide +kernel
theorem dX0_write_57 : decode cX0_write 57 = .ok (.aload_n 0, 1) := by decide +kernel
theorem dX0_write_58 : decode cX0_write 58 = .ok (.getfield 24, 3) := by decide +kernel
theorem dX0_write_61 : decode cX0_write 61 = .ok (.getfield 50, 3) := by decide +kernel
theorem dX0_write_64 : decode cX0_write 64 = .ok (.iastore, 1) := by decide +kernel
theorem dX0_write_65 : decode cX0_write 65 = .ok (.aload_n 0, 1) := by decide +kernel
theorem dX0_write_66 : decode cX0_write 66 = .ok (.getfield 15, 3) := by decide +kernel
theorem dX0_write_69 : decode cX0_write 69 = .ok (.iload_n 3, 1) := by decide +kernel
theorem dX0_write_70 : decode cX0_write 70 = .ok (.aload_n 0, 1) := by decide +kernel
theorem dX0_write_71 : decode cX0_write 71 = .ok (.getfield 24, 3) := by decide +kernel
theorem dX0_write_74 : decode cX0_write 74 = .ok (.getfield 52, 3) := by decide +kernel
theorem dX0_write_77 : decode cX0_write 77 = .ok (.iastore, 1) := by decide +kernel
theorem dX0_write_78 : decode cX0_write 78 = .ok (.aload_n 0, 1) := by decide +kernel
theorem dX0_write_79 : decode cX0_write 79 = .ok (.getfield 18, 3) := by decide +kernel
theorem dX0_write_82 : decode cX0_write 82 = .ok (.iload_n 3, 1) := by decide +kernel
theorem dX0_write_83 : decode cX0_write 83 = .ok (.aload_n 0, 1) := by decide +kernel
theorem dX0_write_84 : decode cX0_write 84 = .ok (.getfield 24, 3) := by decide +kernel
theorem dX0_write_87 : decode cX0_write 87 = .ok (.aload_n 0, 1) := by decide +kernel
theorem dX0_write_88 : decode cX0_write 88 = .ok (.getfield 28, 3) := by decide +kernel
theorem dX0_write_91 : decode cX0_write 91 = .ok (.invokevirtual 54, 3) := by decide +kernel
theorem dX0_write_94 : decode cX0_write 94 = .ok (.iastore, 1) := by decide +kernel
theorem dX0_write_95 : decode cX0_write 95 = .ok (.aload_n 0, 1) := by decide +kernel
theorem dX0_write_96 : decode cX0_write 96 = .ok (.getfield 24, 3) := by decide +kernel
theorem dX0_write_99 : decode cX0_write 99 = .ok (.aload_n 0, 1) := by decide +kernel
theorem dX0_write_100 : decode cX0_write 100 = .ok (.getfield 28, 3) := by decide +kernel
theorem dX0_write_103 : decode cX0_write 103 = .ok (.aload_n 0, 1) := by decide +kernel
theorem dX0_write_104 : decode cX0_write 104 = .ok (.getfield 32, 3) := by decide +kernel
theorem dX0_write_107 : decode cX0_write 107 = .ok (.invokevirtual 58, 3) := by decide +kernel
theorem dX0_write_110 : decode cX0_write 110 = .ok (.iinc 3 1, 3) := by decide +kernel
theorem dX0_write_113 : decode cX0_write 113 = .ok (.goto (-84), 3) := by decide +kernel
theorem dX0_write_116 : decode cX0_write 116 = .ok (.return_, 1) := by decide +kernel
theorem dX0_has_0 : decode cX0_has 0 = .ok (.iload_n 1, 1) := by decide +kernel
theorem dX0_has_1 : decode cX0_has 1 = .ok (.ifCond .lt 15, 3) := by decide +kernel
theorem dX0_has_4 : decode cX0_has 4 = .ok (.iload_n 1, 1) := by decide +kernel
theorem dX0_has_5 : decode cX0_has 5 = .ok (.aload_n 0, 1) := by decide +kernel
theorem dX0_has_6 : decode cX0_has 6 = .ok (.getfield 39, 3) := by decide +kernel
theorem dX0_has_9 : decode cX0_has 9 = .ok (.if_icmp .ge 7, 3) := by decide +kernel
theorem dX0_has_12 : decode cX0_has 12 = .ok (.iconst 1, 1) := by decide +kernel
theorem dX0_has_13 : decode cX0_has 13 = .ok (.goto 4, 3) := by decide +kernel
theorem dX0_has_16 : decode cX0_has 16 = .ok (.iconst 0, 1) := by decide +kernel
theorem dX0_has_17 : decode cX0_has 17 = .ok (.ireturn, 1) := by decide +kernel
theorem dX0_hasPlace_0 : decode cX0_hasPlace 0 = .ok (.iload_n 1, 1) := by decide +kernel
theorem dX0_hasPlace_1 : decode cX0_hasPlace 1 = .ok (.ifCond .lt 15, 3) := by decide +kernel
theorem dX0_hasPlace_4 : decode cX0_hasPlace 4 = .ok (.iload_n 1, 1) := by decide +kernel
theorem dX0_hasPlace_5 : decode cX0_hasPlace 5 = .ok (.aload_n 0, 1) := by decide +kernel
theorem dX0_hasPlace_6 : decode cX0_hasPlace 6 = .ok (.getfield 28, 3) := by decide +kernel
theorem dX0_hasPlace_9 : decode cX0_hasPlace 9 = .ok (.if_icmp .ge 7, 3) := by decide +kernel
theorem dX0_hasPlace_12 : decode cX0_hasPlace 12 = .ok (.iconst 1, 1) := by decide +kernel
theorem dX0_hasPlace_13 : decode cX0_hasPlace 13 = .ok (.goto 4, 3) := by decide +kernel
theorem dX0_hasPlace_16 : decode cX0_hasPlace 16 = .ok (.iconst 0, 1) := by decide +kernel
theorem dX0_hasPlace_17 : decode cX0_hasPlace 17 = .ok (.ireturn, 1) := by decide +kernel
theorem dX0_isPeg_0 : decode cX0_isPeg 0 = .ok (.iload_n 1, 1) := by decide +kernel
theorem dX0_isPeg_1 : decode cX0_isPeg 1 = .ok (.iconst (-1), 1) := by decide +kernel
theorem dX0_isPeg_2 : decode cX0_isPeg 2 = .ok (.if_icmp .lt 15, 3) := by decide +kernel
theorem dX0_isPeg_5 : decode cX0_isPeg 5 = .ok (.iload_n 1, 1) := by decide +kernel
theorem dX0_isPeg_6 : decode cX0_isPeg 6 = .ok (.aload_n 0, 1) := by decide +kernel
theorem dX0_isPeg_7 : decode cX0_isPeg 7 = .ok (.getfield 32, 3) := by decide +kernel
theorem dX0_isPeg_10 : decode cX0_isPeg 10 = .ok (.if_icmp .ge 7, 3) := by decide +kernel
theorem dX0_isPeg_13 : decode cX0_isPeg 13 = .ok (.iconst 1, 1) := by decide +kernel
theorem dX0_isPeg_14 : decode cX0_isPeg 14 = .ok (.goto 4, 3) := by decide +kernel
theorem dX0_isPeg_17 : decode cX0_isPeg 17 = .ok (.iconst 0, 1) := by decide +kernel
theorem dX0_isPeg_18 : decode cX0_isPeg 18 = .ok (.ireturn, 1) := by decide +kernel
theorem dX0_canBeTold_0 : decode cX0_canBeTold 0 = .ok (.iload_n 1, 1) := by decide +kernel
theorem dX0_canBeTold_1 : decode cX0_canBeTold 1 = .ok (.ifCond .lt 23, 3) := by decide +kernel
theorem dX0_canBeTold_4 : decode cX0_canBeTold 4 = .ok (.iload_n 1, 1) := by decide +kernel
theorem dX0_canBeTold_5 : decode cX0_canBeTold 5 = .ok (.bipush 10, 2) := by decide +kernel
theorem dX0_canBeTold_7 : decode cX0_canBeTold 7 = .ok (.idiv, 1) := by decide +kernel
theorem dX0_canBeTold_8 : decode cX0_canBeTold 8 = .ok (.iload_n 1, 1) := by decide +kernel
theorem dX0_canBeTold_9 : decode cX0_canBeTold 9 = .ok (.bipush 10, 2) := by decide +kernel
theorem dX0_canBeTold_11 : decode cX0_canBeTold 11 = .ok (.irem, 1) := by decide +kernel
theorem dX0_canBeTold_12 : decode cX0_canBeTold 12 = .ok (.iadd, 1) := by decide +kernel
theorem dX0_canBeTold_13 : decode cX0_canBeTold 13 = .ok (.aload_n 0, 1) := by decide +kernel
theorem dX0_canBeTold_14 : decode cX0_canBeTold 14 = .ok (.getfield 28, 3) := by decide +kernel
theorem dX0_canBeTold_17 : decode cX0_canBeTold 17 = .ok (.if_icmp .gt 7, 3) := by decide +kernel
theorem dX0_canBeTold_20 : decode cX0_canBeTold 20 = .ok (.iconst 1, 1) := by decide +kernel
theorem dX0_canBeTold_21 : decode cX0_canBeTold 21 = .ok (.goto 4, 3) := by decide +kernel
theorem dX0_canBeTold_24 : decode cX0_canBeTold 24 = .ok (.iconst 0, 1) := by decide +kernel
theorem dX0_canBeTold_25 : decode cX0_canBeTold 25 = .ok (.ireturn, 1) := by decide +kernel
theorem dX0_fullAnswer_0 : decode cX0_fullAnswer 0 = .ok (.bipush 10, 2) := by decide +kernel
theorem dX0_fullAnswer_2 : decode cX0_fullAnswer 2 = .ok (.aload_n 0, 1) := by decide +kernel
theorem dX0_fullAnswer_3 : decode cX0_fullAnswer 3 = .ok (.getfield 28, 3) := by decide +kernel
theorem dX0_fullAnswer_6 : decode cX0_fullAnswer 6 = .ok (.imul, 1) := by decide +kernel
theorem dX0_fullAnswer_7 : decode cX0_fullAnswer 7 = .ok (.ireturn, 1) := by decide +kernel
theorem dX0_colourAt_0 : decode cX0_colourAt 0 = .ok (.aload_n 0, 1) := by decide +kernel
theorem dX0_colourAt_1 : decode cX0_colourAt 1 = .ok (.getfield 18, 3) := by decide +kernel
theorem dX0_colourAt_4 : decode cX0_colourAt 4 = .ok (.iload_n 1, 1) := by decide +kernel
theorem dX0_colourAt_5 : decode cX0_colourAt 5 = .ok (.iaload, 1) := by decide +kernel
theorem dX0_colourAt_6 : decode cX0_colourAt 6 = .ok (.iconst 3, 1) := by decide +kernel
theorem dX0_colourAt_7 : decode cX0_colourAt 7 = .ok (.iload_n 2, 1) := by decide +kernel
theorem dX0_colourAt_8 : decode cX0_colourAt 8 = .ok (.imul, 1) := by decide +kernel
theorem dX0_colourAt_9 : decode cX0_colourAt 9 = .ok (.iushr, 1) := by decide +kernel
theorem dX0_colourAt_10 : decode cX0_colourAt 10 = .ok (.bipush 7, 2) := by decide +kernel
theorem dX0_colourAt_12 : decode cX0_colourAt 12 = .ok (.iand, 1) := by decide +kernel
theorem dX0_colourAt_13 : decode cX0_colourAt 13 = .ok (.ireturn, 1) := by decide +kernel
theorem dX0_answerTo_0 : decode cX0_answerTo 0 = .ok (.bipush 9, 2) := by decide +kernel
theorem dX0_answerTo_2 : decode cX0_answerTo 2 = .ok (.iload_n 1, 1) := by decide +kernel
theorem dX0_answerTo_3 : decode cX0_answerTo 3 = .ok (.aload_n 0, 1) := by decide +kernel
theorem dX0_answerTo_4 : decode cX0_answerTo 4 = .ok (.getfield 9, 3) := by decide +kernel
theorem dX0_answerTo_7 : decode cX0_answerTo 7 = .ok (.iload_n 3, 1) := by decide +kernel
theorem dX0_answerTo_8 : decode cX0_answerTo 8 = .ok (.iaload, 1) := by decide +kernel
theorem dX0_answerTo_9 : decode cX0_answerTo 9 = .ok (.iand, 1) := by decide +kernel
theorem dX0_answerTo_10 : decode cX0_answerTo 10 = .ok (.invokestatic 61, 3) := by decide +kernel
theorem dX0_answerTo_13 : decode cX0_answerTo 13 = .ok (.imul, 1) := by decide +kernel
theorem dX0_answerTo_14 : decode cX0_answerTo 14 = .ok (.iload_n 2, 1) := by decide +kernel
theorem dX0_answerTo_15 : decode cX0_answerTo 15 = .ok (.aload_n 0, 1) := by decide +kernel
theorem dX0_answerTo_16 : decode cX0_answerTo 16 = .ok (.getfield 15, 3) := by decide +kernel
theorem dX0_answerTo_19 : decode cX0_answerTo 19 = .ok (.iload_n 3, 1) := by decide +kernel
theorem dX0_answerTo_20 : decode cX0_answerTo 20 = .ok (.iaload, 1) := by decide +kernel
theorem dX0_answerTo_21 : decode cX0_answerTo 21 = .ok (.iand, 1) := by decide +kernel
theorem dX0_answerTo_22 : decode cX0_answerTo 22 = .ok (.invokestatic 61, 3) := by decide +kernel
theorem dX0_answerTo_25 : decode cX0_answerTo 25 = .ok (.iadd, 1) := by decide +kernel
theorem dX0_answerTo_26 : decode cX0_answerTo 26 = .ok (.ireturn, 1) := by decide +kernel
theorem dX0_answerOfCodes_0 : decode cX0_answerOfCodes 0 = .ok (.aload_n 0, 1) := by decide +kernel
theorem dX0_answerOfCodes_1 : decode cX0_answerOfCodes 1 = .ok (.aload_n 0, 1) := by decide +kernel
theorem dX0_answerOfCodes_2 : decode cX0_answerOfCodes 2 = .ok (.getfield 9, 3) := by decide +kernel
theorem dX0_answerOfCodes_5 : decode cX0_answerOfCodes 5 = .ok (.iload_n 1, 1) := by decide +kernel
theorem dX0_answerOfCodes_6 : decode cX0_answerOfCodes 6 = .ok (.iaload, 1) := by decide +kernel
theorem dX0_answerOfCodes_7 : decode cX0_answerOfCodes 7 = .ok (.aload_n 0, 1) := by decide +kernel
theorem dX0_answerOfCodes_8 : decode cX0_answerOfCodes 8 = .ok (.getfield 15, 3) := by decide +kernel
theorem dX0_answerOfCodes_11 : decode cX0_answerOfCodes 11 = .ok (.iload_n 1, 1) := by decide +kernel
theorem dX0_answerOfCodes_12 : decode cX0_answerOfCodes 12 = .ok (.iaload, 1) := by decide +kernel
theorem dX0_answerOfCodes_13 : decode cX0_answerOfCodes 13 = .ok (.iload_n 2, 1) := by decide +kernel
theorem dX0_answerOfCodes_14 : decode cX0_answerOfCodes 14 = .ok (.invokevirtual 66, 3) := by decide +kernel
theorem dX0_answerOfCodes_17 : decode cX0_answerOfCodes 17 = .ok (.ireturn, 1) := by decide +kernel
theorem dX0_numberOf_0 : decode cX0_numberOf 0 = .ok (.iconst 0, 1) := by decide +kernel
theorem dX0_numberOf_1 : decode cX0_numberOf 1 = .ok (.istore_n 2, 1) := by decide +kernel
theorem dX0_numberOf_2 : decode cX0_numberOf 2 = .ok (.iconst 0, 1) := by decide +kernel
theorem dX0_numberOf_3 : decode cX0_numberOf 3 = .ok (.istore_n 3, 1) := by decide +kernel
theorem dX0_numberOf_4 : decode cX0_numberOf 4 = .ok (.iload_n 3, 1) := by decide +kernel
theorem dX0_numberOf_5 : decode cX0_numberOf 5 = .ok (.aload_n 0, 1) := by decide +kernel
theorem dX0_numberOf_6 : decode cX0_numberOf 6 = .ok (.getfield 28, 3) := by decide +kernel
theorem dX0_numberOf_9 : decode cX0_numberOf 9 = .ok (.if_icmp .ge 35, 3) := by decide +kernel
theorem dX0_numberOf_12 : decode cX0_numberOf 12 = .ok (.aload_n 1, 1) := by decide +kernel
theorem dX0_numberOf_13 : decode cX0_numberOf 13 = .ok (.getfield 70, 3) := by decide +kernel
theorem dX0_numberOf_16 : decode cX0_numberOf 16 = .ok (.iload_n 3, 1) := by decide +kernel
theorem dX0_numberOf_17 : decode cX0_numberOf 17 = .ok (.iaload, 1) := by decide +kernel
theorem dX0_numberOf_18 : decode cX0_numberOf 18 = .ok (.iconst (-1), 1) := by decide +kernel
theorem dX0_numberOf_19 : decode cX0_numberOf 19 = .ok (.if_icmp .ne 5, 3) := by decide +kernel
theorem dX0_numberOf_22 : decode cX0_numberOf 22 = .ok (.iconst (-1), 1) := by decide +kernel
theorem dX0_numberOf_23 : decode cX0_numberOf 23 = .ok (.ireturn, 1) := by decide +kernel
theorem dX0_numberOf_24 : decode cX0_numberOf 24 = .ok (.iload_n 2, 1) := by decide +kernel
theorem dX0_numberOf_25 : decode cX0_numberOf 25 = .ok (.aload_n 0, 1) := by decide +kernel
theorem dX0_numberOf_26 : decode cX0_numberOf 26 = .ok (.getfield 32, 3) := by decide +kernel
theorem dX0_numberOf_29 : decode cX0_numberOf 29 = .ok (.imul, 1) := by decide +kernel
theorem dX0_numberOf_30 : decode cX0_numberOf 30 = .ok (.aload_n 1, 1) := by decide +kernel
theorem dX0_numberOf_31 : decode cX0_numberOf 31 = .ok (.getfield 70, 3) := by decide +kernel
theorem dX0_numberOf_34 : decode cX0_numberOf 34 = .ok (.iload_n 3, 1) := by decide +kernel
theorem dX0_numberOf_35 : decode cX0_numberOf 35 = .ok (.iaload, 1) := by decide +kernel
theorem dX0_numberOf_36 : decode cX0_numberOf 36 = .ok (.iadd, 1) := by decide +kernel
theorem dX0_numberOf_37 : decode cX0_numberOf 37 = .ok (.istore_n 2, 1) := by decide +kernel
theorem dX0_numberOf_38 : decode cX0_numberOf 38 = .ok (.iinc 3 1, 3) := by decide +kernel
theorem dX0_numberOf_41 : decode cX0_numberOf 41 = .ok (.goto (-37), 3) := by decide +kernel
theorem dX0_numberOf_44 : decode cX0_numberOf 44 = .ok (.iload_n 2, 1) := by decide +kernel
theorem dX0_numberOf_45 : decode cX0_numberOf 45 = .ok (.ireturn, 1) := by decide +kernel
theorem dX0_hasColourTwice_0 : decode cX0_hasColourTwice 0 = .ok (.iconst 0, 1) := by decide +kernel
theorem dX0_hasColourTwice_1 : decode cX0_hasColourTwice 1 = .ok (.istore_n 2, 1) := by decide +kernel
theorem dX0_hasColourTwice_2 : decode cX0_hasColourTwice 2 = .ok (.iconst 0, 1) := by decide +kernel
theorem dX0_hasColourTwice_3 : decode cX0_hasColourTwice 3 = .ok (.istore_n 3, 1) := by decide +kernel
theorem dX0_hasColourTwice_4 : decode cX0_hasColourTwice 4 = .ok (.iload_n 3, 1) := by decide +kernel
theorem dX0_hasColourTwice_5 : decode cX0_hasColourTwice 5 = .ok (.aload_n 0, 1) := by decide +kernel
theorem dX0_hasColourTwice_6 : decode cX0_hasColourTwice 6 = .ok (.getfield 28, 3) := by decide +kernel
theorem dX0_hasColourTwice_9 : decode cX0_hasColourTwice 9 = .ok (.if_icmp .ge 33, 3) := by decide +kernel
theorem dX0_hasColourTwice_12 : decode cX0_hasColourTwice 12 = .ok (.iconst 1, 1) := by decide +kernel
theorem dX0_hasColourTwice_13 : decode cX0_hasColourTwice 13 = .ok (.aload_n 0, 1) := by decide +kernel
theorem dX0_hasColourTwice_14 : decode cX0_hasColourTwice 14 = .ok (.iload_n 1, 1) := by decide +kernel
theorem dX0_hasColourTwice_15 : decode cX0_hasColourTwice 15 = .ok (.iload_n 3, 1) := by decide +kernel
theorem dX0_hasColourTwice_16 : decode cX0_hasColourTwice 16 = .ok (.invokevirtual 73, 3) := by decide +kernel
theorem dX0_hasColourTwice_19 : decode cX0_hasColourTwice 19 = .ok (.ishl, 1) := by decide +kernel
theorem dX0_hasColourTwice_20 : decode cX0_hasColourTwice 20 = .ok (.istore 4, 2) := by decide +kernel
theorem dX0_hasColourTwice_22 : decode cX0_hasColourTwice 22 = .ok (.iload_n 2, 1) := by decide +kernel
theorem dX0_hasColourTwice_23 : decode cX0_hasColourTwice 23 = .ok (.iload 4, 2) := by decide +kernel
theorem dX0_hasColourTwice_25 : decode cX0_hasColourTwice 25 = .ok (.iand, 1) := by decide +kernel
theorem dX0_hasColourTwice_26 : decode cX0_hasColourTwice 26 = .ok (.ifCond .eq 5, 3) := by decide +kernel
theorem dX0_hasColourTwice_29 : decode cX0_hasColourTwice 29 = .ok (.iconst 1, 1) := by decide +kernel
theorem dX0_hasColourTwice_30 : decode cX0_hasColourTwice 30 = .ok (.ireturn, 1) := by decide +kernel
theorem dX0_hasColourTwice_31 : decode cX0_hasColourTwice 31 = .ok (.iload_n 2, 1) := by decide +kernel
theorem dX0_hasColourTwice_32 : decode cX0_hasColourTwice 32 = .ok (.iload 4, 2) := by decide +kernel
theorem dX0_hasColourTwice_34 : decode cX0_hasColourTwice 34 = .ok (.ior, 1) := by decide +kernel
theorem dX0_hasColourTwice_35 : decode cX0_hasColourTwice 35 = .ok (.istore_n 2, 1) := by decide +kernel
theorem dX0_hasColourTwice_36 : decode cX0_hasColourTwice 36 = .ok (.iinc 3 1, 3) := by decide +kernel
theorem dX0_hasColourTwice_39 : decode cX0_hasColourTwice 39 = .ok (.goto (-35), 3) := by decide +kernel
theorem dX0_hasColourTwice_42 : decode cX0_hasColourTwice 42 = .ok (.iconst 0, 1) := by decide +kernel
theorem dX0_hasColourTwice_43 : decode cX0_hasColourTwice 43 = .ok (.ireturn, 1) := by decide +kernel
theorem dX0_sumOfColours_0 : decode cX0_sumOfColours 0 = .ok (.iconst 0, 1) := by decide +kernel
theorem dX0_sumOfColours_1 : decode cX0_sumOfColours 1 = .ok (.istore_n 2, 1) := by decide +kernel
theorem dX0_sumOfColours_2 : decode cX0_sumOfColours 2 = .ok (.iconst 0, 1) := by decide +kernel
theorem dX0_sumOfColours_3 : decode cX0_sumOfColours 3 = .ok (.istore_n 3, 1) := by decide +kernel
theorem dX0_sumOfColours_4 : decode cX0_sumOfColours 4 = .ok (.iload_n 3, 1) := by decide +kernel
theorem dX0_sumOfColours_5 : decode cX0_sumOfColours 5 = .ok (.aload_n 0, 1) := by decide +kernel
theorem dX0_sumOfColours_6 : decode cX0_sumOfColours 6 = .ok (.getfield 28, 3) := by decide +kernel
theorem dX0_sumOfColours_9 : decode cX0_sumOfColours 9 = .ok (.if_icmp .ge 18, 3) := by decide +kernel
theorem dX0_sumOfColours_12 : decode cX0_sumOfColours 12 = .ok (.iload_n 2, 1) := by decide +kernel
theorem dX0_sumOfColours_13 : decode cX0_sumOfColours 13 = .ok (.aload_n 0, 1) := by decide +kernel
theorem dX0_sumOfColours_14 : decode cX0_sumOfColours 14 = .ok (.iload_n 1, 1) := by decide +kernel
theorem dX0_sumOfColours_15 : decode cX0_sumOfColours 15 = .ok (.iload_n 3, 1) := by decide +kernel
theorem dX0_sumOfColours_16 : decode cX0_sumOfColours 16 = .ok (.invokevirtual 73, 3) := by decide +kernel
theorem dX0_sumOfColours_19 : decode cX0_sumOfColours 19 = .ok (.iadd, 1) := by decide +kernel
theorem dX0_sumOfColours_20 : decode cX0_sumOfColours 20 = .ok (.istore_n 2, 1) := by decide +kernel
theorem dX0_sumOfColours_21 : decode cX0_sumOfColours 21 = .ok (.iinc 3 1, 3) := by decide +kernel
theorem dX0_sumOfColours_24 : decode cX0_sumOfColours 24 = .ok (.goto (-20), 3) := by decide +kernel
theorem dX0_sumOfColours_27 : decode cX0_sumOfColours 27 = .ok (.iload_n 2, 1) := by decide +kernel
theorem dX0_sumOfColours_28 : decode cX0_sumOfColours 28 = .ok (.ireturn, 1) := by decide +kernel
theorem dX1_init_0 : decode cX1_init 0 = .ok (.aload_n 0, 1) := by decide +kernel
theorem dX1_init_1 : decode cX1_init 1 = .ok (.invokespecial 5, 3) := by decide +kernel
theorem dX1_init_4 : decode cX1_init 4 = .ok (.aload_n 0, 1) := by decide +kernel
theorem dX1_init_5 : decode cX1_init 5 = .ok (.bipush 10, 2) := by decide +kernel
theorem dX1_init_7 : decode cX1_init 7 = .ok (.newarray .int, 2) := by decide +kernel
theorem dX1_init_9 : decode cX1_init 9 = .ok (.putfield 11, 3) := by decide +kernel
theorem dX1_init_12 : decode cX1_init 12 = .ok (.aload_n 0, 1) := by decide +kernel
theorem dX1_init_13 : decode cX1_init 13 = .ok (.bipush 51, 2) := by decide +kernel
theorem dX1_init_15 : decode cX1_init 15 = .ok (.newarray .int, 2) := by decide +kernel
theorem dX1_init_17 : decode cX1_init 17 = .ok (.putfield 15, 3) := by decide +kernel
theorem dX1_init_20 : decode cX1_init 20 = .ok (.aload_n 0, 1) := by decide +kernel
theorem dX1_init_21 : decode cX1_init 21 = .ok (.sipush 11264, 3) := by decide +kernel
theorem dX1_init_24 : decode cX1_init 24 = .ok (.newarray .int, 2) := by decide +kernel
theorem dX1_init_26 : decode cX1_init 26 = .ok (.putfield 18, 3) := by decide +kernel
theorem dX1_init_29 : decode cX1_init 29 = .ok (.iload_n 2, 1) := by decide +kernel
theorem dX1_init_30 : decode cX1_init 30 = .ok (.ifCond .eq 9, 3) := by decide +kernel
theorem dX1_init_33 : decode cX1_init 33 = .ok (.sipush 1296, 3) := by decide +kernel
theorem dX1_init_36 : decode cX1_init 36 = .ok (.goto 5, 3) := by decide +kernel
theorem dX1_init_39 : decode cX1_init 39 = .ok (.bipush 10, 2) := by decide +kernel
theorem dX1_init_41 : decode cX1_init 41 = .ok (.istore_n 3, 1) := by decide +kernel
theorem dX1_init_42 : decode cX1_init 42 = .ok (.aload_n 0, 1) := by decide +kernel
theorem dX1_init_43 : decode cX1_init 43 = .ok (.aload_n 1, 1) := by decide +kernel
theorem dX1_init_44 : decode cX1_init 44 = .ok (.putfield 21, 3) := by decide +kernel
theorem dX1_init_47 : decode cX1_init 47 = .ok (.aload_n 0, 1) := by decide +kernel
theorem dX1_init_48 : decode cX1_init 48 = .ok (.iload_n 2, 1) := by decide +kernel
theorem dX1_init_49 : decode cX1_init 49 = .ok (.putfield 25, 3) := by decide +kernel
theorem dX1_init_52 : decode cX1_init 52 = .ok (.aload_n 0, 1) := by decide +kernel
theorem dX1_init_53 : decode cX1_init 53 = .ok (.iload_n 3, 1) := by decide +kernel
theorem dX1_init_54 : decode cX1_init 54 = .ok (.newarray .int, 2) := by decide +kernel
theorem dX1_init_56 : decode cX1_init 56 = .ok (.putfield 29, 3) := by decide +kernel
theorem dX1_init_59 : decode cX1_init 59 = .ok (.aload_n 0, 1) := by decide +kernel
theorem dX1_init_60 : decode cX1_init 60 = .ok (.iload_n 3, 1) := by decide +kernel
theorem dX1_init_61 : decode cX1_init 61 = .ok (.newarray .int, 2) := by decide +kernel
theorem dX1_init_63 : decode cX1_init 63 = .ok (.putfield 32, 3) := by decide +kernel
theorem dX1_init_66 : decode cX1_init 66 = .ok (.aload_n 0, 1) := by decide +kernel
theorem dX1_init_67 : decode cX1_init 67 = .ok (.iload_n 3, 1) := by decide +kernel
theorem dX1_init_68 : decode cX1_init 68 = .ok (.newarray .int, 2) := by decide +kernel
theorem dX1_init_70 : decode cX1_init 70 = .ok (.putfield 35, 3) := by decide +kernel
theorem dX1_init_73 : decode cX1_init 73 = .ok (.aload_n 0, 1) := by decide +kernel
theorem dX1_init_74 : decode cX1_init 74 = .ok (.iload_n 3, 1) := by decide +kernel
theorem dX1_init_75 : decode cX1_init 75 = .ok (.bipush 10, 2) := by decide +kernel
theorem dX1_init_77 : decode cX1_init 77 = .ok (.imul, 1) := by decide +kernel
theorem dX1_init_78 : decode cX1_init 78 = .ok (.newarray .int, 2) := by decide +kernel
theorem dX1_init_80 : decode cX1_init 80 = .ok (.putfield 38, 3) := by decide +kernel
theorem dX1_init_83 : decode cX1_init 83 = .ok (.aload_n 0, 1) := by decide +kernel
theorem dX1_init_84 : decode cX1_init 84 = .ok (.iload_n 3, 1) := by decide +kernel
theorem dX1_init_85 : decode cX1_init 85 = .ok (.newarray .long, 2) := by decide +kernel
theorem dX1_init_87 : decode cX1_init 87 = .ok (.putfield 41, 3) := by decide +kernel
theorem dX1_init_90 : decode cX1_init 90 = .ok (.aload_n 0, 1) := by decide +kernel
theorem dX1_init_91 : decode cX1_init 91 = .ok (.iload_n 2, 1) := by decide +kernel
theorem dX1_init_92 : decode cX1_init 92 = .ok (.ifCond .eq 9, 3) := by decide +kernel
theorem dX1_init_95 : decode cX1_init 95 = .ok (.sipush 2048, 3) := by decide +kernel
theorem dX1_init_98 : decode cX1_init 98 = .ok (.goto 4, 3) := by decide +kernel
theorem dX1_init_101 : decode cX1_init 101 = .ok (.iconst 0, 1) := by decide +kernel
theorem dX1_init_102 : decode cX1_init 102 = .ok (.newarray .int, 2) := by decide +kernel
theorem dX1_init_104 : decode cX1_init 104 = .ok (.putfield 45, 3) := by decide +kernel
theorem dX1_init_107 : decode cX1_init 107 = .ok (.return_, 1) := by decide +kernel
theorem dX1_standFor_0 : decode cX1_standFor 0 = .ok (.aload_n 0, 1) := by decide +kernel
theorem dX1_standFor_1 : decode cX1_standFor 1 = .ok (.aload_n 1, 1) := by decide +kernel
theorem dX1_standFor_2 : decode cX1_standFor 2 = .ok (.invokevirtual 48, 3) := by decide +kernel
theorem dX1_standFor_5 : decode cX1_standFor 5 = .ok (.ifCond .eq 4, 3) := by decide +kernel
theorem dX1_standFor_8 : decode cX1_standFor 8 = .ok (.return_, 1) := by decide +kernel
theorem dX1_standFor_9 : decode cX1_standFor 9 = .ok (.aload_n 0, 1) := by decide +kernel
theorem dX1_standFor_10 : decode cX1_standFor 10 = .ok (.aload_n 0, 1) := by decide +kernel
theorem dX1_standFor_11 : decode cX1_standFor 11 = .ok (.getfield 21, 3) := by decide +kernel
theorem dX1_standFor_14 : decode cX1_standFor 14 = .ok (.getfield 52, 3) := by decide +kernel
theorem dX1_standFor_17 : decode cX1_standFor 17 = .ok (.putfield 58, 3) := by decide +kernel
theorem dX1_standFor_20 : decode cX1_standFor 20 = .ok (.aload_n 0, 1) := by decide +kernel
theorem dX1_standFor_21 : decode cX1_standFor 21 = .ok (.aload_n 0, 1) := by decide +kernel
theorem dX1_standFor_22 : decode cX1_standFor 22 = .ok (.getfield 21, 3) := by decide +kernel
theorem dX1_standFor_25 : decode cX1_standFor 25 = .ok (.getfield 59, 3) := by decide +kernel
theorem dX1_standFor_28 : decode cX1_standFor 28 = .ok (.putfield 62, 3) := by decide +kernel
theorem dX1_standFor_31 : decode cX1_standFor 31 = .ok (.aload_n 0, 1) := by decide +kernel
theorem dX1_standFor_32 : decode cX1_standFor 32 = .ok (.aload_n 1, 1) := by decide +kernel
theorem dX1_standFor_33 : decode cX1_standFor 33 = .ok (.getfield 63, 3) := by decide +kernel
theorem dX1_standFor_36 : decode cX1_standFor 36 = .ok (.bipush 10, 2) := by decide +kernel
theorem dX1_standFor_38 : decode cX1_standFor 38 = .ok (.invokestatic 68, 3) := by decide +kernel
theorem dX1_standFor_41 : decode cX1_standFor 41 = .ok (.putfield 74, 3) := by decide +kernel
theorem dX1_standFor_44 : decode cX1_standFor 44 = .ok (.aload_n 1, 1) := by decide +kernel
theorem dX1_standFor_45 : decode cX1_standFor 45 = .ok (.getfield 77, 3) := by decide +kernel
theorem dX1_standFor_48 : decode cX1_standFor 48 = .ok (.iconst 0, 1) := by decide +kernel
theorem dX1_standFor_49 : decode cX1_standFor 49 = .ok (.aload_n 0, 1) := by decide +kernel
theorem dX1_standFor_50 : decode cX1_standFor 50 = .ok (.getfield 11, 3) := by decide +kernel
theorem dX1_standFor_53 : decode cX1_standFor 53 = .ok (.iconst 0, 1) := by decide +kernel
theorem dX1_standFor_54 : decode cX1_standFor 54 = .ok (.aload_n 0, 1) := by decide +kernel
theorem dX1_standFor_55 : decode cX1_standFor 55 = .ok (.getfield 74, 3) := by decide +kernel
theorem dX1_standFor_58 : decode cX1_standFor 58 = .ok (.invokestatic 80, 3) := by decide +kernel
theorem dX1_standFor_61 : decode cX1_standFor 61 = .ok (.aload_n 0, 1) := by decide +kernel
theorem dX1_standFor_62 : decode cX1_standFor 62 = .ok (.getfield 18, 3) := by decide +kernel
theorem dX1_standFor_65 : decode cX1_standFor 65 = .ok (.iconst 0, 1) := by decide +kernel
theorem dX1_standFor_66 : decode cX1_standFor 66 = .ok (.invokestatic 86, 3) := by decide +kernel
theorem dX1_standFor_69 : decode cX1_standFor 69 = .ok (.aload_n 0, 1) := by decide +kernel
theorem dX1_standFor_70 : decode cX1_standFor 70 = .ok (.getfield 45, 3) := by decide +kernel
theorem dX1_standFor_73 : decode cX1_standFor 73 = .ok (.iconst 0, 1) := by decide +kernel
theorem dX1_standFor_74 : decode cX1_standFor 74 = .ok (.invokestatic 86, 3) := by decide +kernel
theorem dX1_standFor_77 : decode cX1_standFor 77 = .ok (.aload_n 0, 1) := by decide +kernel
theorem dX1_standFor_78 : decode cX1_standFor 78 = .ok (.iconst 0, 1) := by decide +kernel
theorem dX1_standFor_79 : decode cX1_standFor 79 = .ok (.putfield 92, 3) := by decide +kernel
theorem dX1_standFor_82 : decode cX1_standFor 82 = .ok (.aload_n 0, 1) := by decide +kernel
theorem dX1_standFor_83 : decode cX1_standFor 83 = .ok (.getfield 25, 3) := by decide +kernel
theorem dX1_standFor_86 : decode cX1_standFor 86 = .ok (.ifCond .eq 13, 3) := by decide +kernel
theorem dX1_standFor_89 : decode cX1_standFor 89 = .ok (.aload_n 0, 1) := by decide +kernel
theorem dX1_standFor_90 : decode cX1_standFor 90 = .ok (.getfield 21, 3) := by decide +kernel
theorem dX1_standFor_93 : decode cX1_standFor 93 = .ok (.getfield 95, 3) := by decide +kernel
theorem dX1_standFor_96 : decode cX1_standFor 96 = .ok (.goto 7, 3) := by decide +kernel
theorem dX1_standFor_99 : decode cX1_standFor 99 = .ok (.aload_n 0, 1) := by decide +kernel
theorem dX1_standFor_100 : decode cX1_standFor 100 = .ok (.getfield 74, 3) := by decide +kernel
theorem dX1_standFor_103 : decode cX1_standFor 103 = .ok (.istore_n 2, 1) := by decide +kernel
theorem dX1_standFor_104 : decode cX1_standFor 104 = .ok (.iconst 0, 1) := by decide +kernel
theorem dX1_standFor_105 : decode cX1_standFor 105 = .ok (.istore_n 3, 1) := by decide +kernel
theorem dX1_standFor_106 : decode cX1_standFor 106 = .ok (.iload_n 3, 1) := by decide +kernel
theorem dX1_standFor_107 : decode cX1_standFor 107 = .ok (.iload_n 2, 1) := by decide +kernel
theorem dX1_standFor_108 : decode cX1_standFor 108 = .ok (.if_icmp .ge 30, 3) := by decide +kernel
theorem dX1_standFor_111 : decode cX1_standFor 111 = .ok (.aload_n 0, 1) := by decide +kernel
theorem dX1_standFor_112 : decode cX1_standFor 112 = .ok (.aload_n 0, 1) := by decide +kernel
theorem dX1_standFor_113 : decode cX1_standFor 113 = .ok (.getfield 25, 3) := by decide +kernel
theorem dX1_standFor_116 : decode cX1_standFor 116 = .ok (.ifCond .eq 7, 3) := by decide +kernel
theorem dX1_standFor_119 : decode cX1_standFor 119 = .ok (.iload_n 3, 1) := by decide +kernel
theorem dX1_standFor_120 : decode cX1_standFor 120 = .ok (.goto 9, 3) := by decide +kernel
theorem dX1_standFor_123 : decode cX1_standFor 123 = .ok (.aload_n 0, 1) := by decide +kernel
theorem dX1_standFor_124 : decode cX1_standFor 124 = .ok (.getfield 11, 3) := by decide +kernel
theorem dX1_standFor_127 : decode cX1_standFor 127 = .ok (.iload_n 3, 1) := by decide +kernel
theorem dX1_standFor_128 : decode cX1_standFor 128 = .ok (.iaload, 1) := by decide +kernel
theorem dX1_standFor_129 : decode cX1_standFor 129 = .ok (.invokevirtual 98, 3) := by decide +kernel
theorem dX1_standFor_132 : decode cX1_standFor 132 = .ok (.iinc 3 1, 3) := by decide +kernel
theorem dX1_standFor_135 : decode cX1_standFor 135 = .ok (.goto (-29), 3) := by decide +kernel
theorem dX1_standFor_138 : decode cX1_standFor 138 = .ok (.return_, 1) := by decide +kernel
theorem dX1_standsFor_0 : decode cX1_standsFor 0 = .ok (.aload_n 0, 1) := by decide +kernel
theorem dX1_standsFor_1 : decode cX1_standsFor 1 = .ok (.getfield 58, 3) := by decide +kernel
theorem dX1_standsFor_4 : decode cX1_standsFor 4 = .ok (.aload_n 0, 1) := by decide +kernel
theorem dX1_standsFor_5 : decode cX1_standsFor 5 = .ok (.getfield 21, 3) := by decide +kernel
theorem dX1_standsFor_8 : decode cX1_standsFor 8 = .ok (.getfield 52, 3) := by decide +kernel
theorem dX1_standsFor_11 : decode cX1_standsFor 11 = .ok (.if_icmp .ne 28, 3) := by decide +kernel
theorem dX1_standsFor_14 : decode cX1_standsFor 14 = .ok (.aload_n 0, 1) := by decide +kernel
theorem dX1_standsFor_15 : decode cX1_standsFor 15 = .ok (.getfield 62, 3) := by decide +kernel
theorem dX1_standsFor_18 : decode cX1_standsFor 18 = .ok (.aload_n 0, 1) := by decide +kernel
theorem dX1_standsFor_19 : decode cX1_standsFor 19 = .ok (.getfield 21, 3) := by decide +kernel
theorem dX1_standsFor_22 : decode cX1_standsFor 22 = .ok (.getfield 59, 3) := by decide +kernel
theorem dX1_standsFor_25 : decode cX1_standsFor 25 = .ok (.if_icmp .ne 14, 3) := by decide +kernel
theorem dX1_standsFor_28 : decode cX1_standsFor 28 = .ok (.aload_n 0, 1) := by decide +kernel
theorem dX1_standsFor_29 : decode cX1_standsFor 29 = .ok (.getfield 74, 3) := by decide +kernel
theorem dX1_standsFor_32 : decode cX1_standsFor 32 = .ok (.aload_n 1, 1) := by decide +kernel
theorem dX1_standsFor_33 : decode cX1_standsFor 33 = .ok (.getfield 63, 3) := by decide +kernel
theorem dX1_standsFor_36 : decode cX1_standsFor 36 = .ok (.if_icmp .eq 5, 3) := by decide +kernel
theorem dX1_standsFor_39 : decode cX1_standsFor 39 = .ok (.iconst 0, 1) := by decide +kernel
theorem dX1_standsFor_40 : decode cX1_standsFor 40 = .ok (.ireturn, 1) := by decide +kernel
theorem dX1_standsFor_41 : decode cX1_standsFor 41 = .ok (.iconst 0, 1) := by decide +kernel
theorem dX1_standsFor_42 : decode cX1_standsFor 42 = .ok (.istore_n 2, 1) := by decide +kernel
theorem dX1_standsFor_43 : decode cX1_standsFor 43 = .ok (.iload_n 2, 1) := by decide +kernel
theorem dX1_standsFor_44 : decode cX1_standsFor 44 = .ok (.aload_n 0, 1) := by decide +kernel
theorem dX1_standsFor_45 : decode cX1_standsFor 45 = .ok (.getfield 74, 3) := by decide +kernel
theorem dX1_standsFor_48 : decode cX1_standsFor 48 = .ok (.if_icmp .ge 26, 3) := by decide +kernel
theorem dX1_standsFor_51 : decode cX1_standsFor 51 = .ok (.aload_n 0, 1) := by decide +kernel
theorem dX1_standsFor_52 : decode cX1_standsFor 52 = .ok (.getfield 11, 3) := by decide +kernel
theorem dX1_standsFor_55 : decode cX1_standsFor 55 = .ok (.iload_n 2, 1) := by decide +kernel
theorem dX1_standsFor_56 : decode cX1_standsFor 56 = .ok (.iaload, 1) := by decide +kernel
theorem dX1_standsFor_57 : decode cX1_standsFor 57 = .ok (.aload_n 1, 1) := by decide +kernel
theorem dX1_standsFor_58 : decode cX1_standsFor 58 = .ok (.getfield 77, 3) := by decide +kernel
theorem dX1_standsFor_61 : decode cX1_standsFor 61 = .ok (.iload_n 2, 1) := by decide +kernel
theorem dX1_standsFor_62 : decode cX1_standsFor 62 = .ok (.iaload, 1) := by decide +kernel
theorem dX1_standsFor_63 : decode cX1_standsFor 63 = .ok (.if_icmp .eq 5, 3) := by decide +kernel
theorem dX1_standsFor_66 : decode cX1_standsFor 66 = .ok (.iconst 0, 1) := by decide +kernel
theorem dX1_standsFor_67 : decode cX1_standsFor 67 = .ok (.ireturn, 1) := by decide +kernel
theorem dX1_standsFor_68 : decode cX1_standsFor 68 = .ok (.iinc 2 1, 3) := by decide +kernel
theorem dX1_standsFor_71 : decode cX1_standsFor 71 = .ok (.goto (-28), 3) := by decide +kernel
theorem dX1_standsFor_74 : decode cX1_standsFor 74 = .ok (.iconst 1, 1) := by decide +kernel
theorem dX1_standsFor_75 : decode cX1_standsFor 75 = .ok (.ireturn, 1) := by decide +kernel
theorem dX1_enter_0 : decode cX1_enter 0 = .ok (.aload_n 0, 1) := by decide +kernel
theorem dX1_enter_1 : decode cX1_enter 1 = .ok (.getfield 92, 3) := by decide +kernel
theorem dX1_enter_4 : decode cX1_enter 4 = .ok (.aload_n 0, 1) := by decide +kernel
theorem dX1_enter_5 : decode cX1_enter 5 = .ok (.getfield 29, 3) := by decide +kernel
theorem dX1_enter_8 : decode cX1_enter 8 = .ok (.arraylength, 1) := by decide +kernel
theorem dX1_enter_9 : decode cX1_enter 9 = .ok (.if_icmp .lt 4, 3) := by decide +kernel
theorem dX1_enter_12 : decode cX1_enter 12 = .ok (.return_, 1) := by decide +kernel
theorem dX1_enter_13 : decode cX1_enter 13 = .ok (.aload_n 0, 1) := by decide +kernel
theorem dX1_enter_14 : decode cX1_enter 14 = .ok (.iload_n 1, 1) := by decide +kernel
theorem dX1_enter_15 : decode cX1_enter 15 = .ok (.invokevirtual 102, 3) := by decide +kernel
theorem dX1_enter_18 : decode cX1_enter 18 = .ok (.lstore_n 2, 1) := by decide +kernel
theorem dX1_enter_19 : decode cX1_enter 19 = .ok (.aload_n 0, 1) := by decide +kernel
theorem dX1_enter_20 : decode cX1_enter 20 = .ok (.getfield 25, 3) := by decide +kernel
theorem dX1_enter_23 : decode cX1_enter 23 = .ok (.ifCond .eq 34, 3) := by decide +kernel
theorem dX1_enter_26 : decode cX1_enter 26 = .ok (.aload_n 0, 1) := by decide +kernel
theorem dX1_enter_27 : decode cX1_enter 27 = .ok (.lload_n 2, 1) := by decide +kernel
theorem dX1_enter_28 : decode cX1_enter 28 = .ok (.invokevirtual 106, 3) := by decide +kernel
theorem dX1_enter_31 : decode cX1_enter 31 = .ok (.istore 4, 2) := by decide +kernel
theorem dX1_enter_33 : decode cX1_enter 33 = .ok (.aload_n 0, 1) := by decide +kernel
theorem dX1_enter_34 : decode cX1_enter 34 = .ok (.getfield 45, 3) := by decide +kernel
theorem dX1_enter_37 : decode cX1_enter 37 = .ok (.iload 4, 2) := by decide +kernel
theorem dX1_enter_39 : decode cX1_enter 39 = .ok (.iaload, 1) := by decide +kernel
theorem dX1_enter_40 : decode cX1_enter 40 = .ok (.ifCond .eq 4, 3) := by decide +kernel
theorem dX1_enter_43 : decode cX1_enter 43 = .ok (.return_, 1) := by decide +kernel
theorem dX1_enter_44 : decode cX1_enter 44 = .ok (.aload_n 0, 1) := by decide +kernel
theorem dX1_enter_45 : decode cX1_enter 45 = .ok (.getfield 45, 3) := by decide +kernel
theorem dX1_enter_48 : decode cX1_enter 48 = .ok (.iload 4, 2) := by decide +kernel
theorem dX1_enter_50 : decode cX1_enter 50 = .ok (.aload_n 0, 1) := by decide +kernel
theorem dX1_enter_51 : decode cX1_enter 51 = .ok (.getfield 92, 3) := by decide +kernel
theorem dX1_enter_54 : decode cX1_enter 54 = .ok (.iconst 1, 1) := by decide +kernel
theorem dX1_enter_55 : decode cX1_enter 55 = .ok (.iadd, 1) := by decide +kernel
theorem dX1_enter_56 : decode cX1_enter 56 = .ok (.iastore, 1) := by decide +kernel
theorem dX1_enter_57 : decode cX1_enter 57 = .ok (.aload_n 0, 1) := by decide +kernel
theorem dX1_enter_58 : decode cX1_enter 58 = .ok (.getfield 29, 3) := by decide +kernel
theorem dX1_enter_61 : decode cX1_enter 61 = .ok (.aload_n 0, 1) := by decide +kernel
theorem dX1_enter_62 : decode cX1_enter 62 = .ok (.getfield 92, 3) := by decide +kernel
theorem dX1_enter_65 : decode cX1_enter 65 = .ok (.iload_n 1, 1) := by decide +kernel
theorem dX1_enter_66 : decode cX1_enter 66 = .ok (.iastore, 1) := by decide +kernel
theorem dX1_enter_67 : decode cX1_enter 67 = .ok (.aload_n 0, 1) := by decide +kernel
theorem dX1_enter_68 : decode cX1_enter 68 = .ok (.getfield 32, 3) := by decide +kernel
theorem dX1_enter_71 : decode cX1_enter 71 = .ok (.aload_n 0, 1) := by decide +kernel
theorem dX1_enter_72 : decode cX1_enter 72 = .ok (.getfield 92, 3) := by decide +kernel
theorem dX1_enter_75 : decode cX1_enter 75 = .ok (.aload_n 0, 1) := by decide +kernel
theorem dX1_enter_76 : decode cX1_enter 76 = .ok (.iload_n 1, 1) := by decide +kernel
theorem dX1_enter_77 : decode cX1_enter 77 = .ok (.invokevirtual 110, 3) := by decide +kernel
theorem dX1_enter_80 : decode cX1_enter 80 = .ok (.iastore, 1) := by decide +kernel
theorem dX1_enter_81 : decode cX1_enter 81 = .ok (.aload_n 0, 1) := by decide +kernel
theorem dX1_enter_82 : decode cX1_enter 82 = .ok (.getfield 41, 3) := by decide +kernel
theorem dX1_enter_85 : decode cX1_enter 85 = .ok (.aload_n 0, 1) := by decide +kernel
theorem dX1_enter_86 : decode cX1_enter 86 = .ok (.getfield 92, 3) := by decide +kernel
theorem dX1_enter_89 : decode cX1_enter 89 = .ok (.lload_n 2, 1) := by decide +kernel
theorem dX1_enter_90 : decode cX1_enter 90 = .ok (.lastore, 1) := by decide +kernel
theorem dX1_enter_91 : decode cX1_enter 91 = .ok (.aload_n 0, 1) := by decide +kernel
theorem dX1_enter_92 : decode cX1_enter 92 = .ok (.dup, 1) := by decide +kernel
theorem dX1_enter_93 : decode cX1_enter 93 = .ok (.getfield 92, 3) := by decide +kernel
theorem dX1_enter_96 : decode cX1_enter 96 = .ok (.iconst 1, 1) := by decide +kernel
theorem dX1_enter_97 : decode cX1_enter 97 = .ok (.iadd, 1) := by decide +kernel
theorem dX1_enter_98 : decode cX1_enter 98 = .ok (.putfield 92, 3) := by decide +kernel
theorem dX1_enter_101 : decode cX1_enter 101 = .ok (.return_, 1) := by decide +kernel
theorem dX1_classify_0 : decode cX1_classify 0 = .ok (.aload_n 0, 1) := by decide +kernel
theorem dX1_classify_1 : decode cX1_classify 1 = .ok (.getfield 92, 3) := by decide +kernel
theorem dX1_classify_4 : decode cX1_classify 4 = .ok (.bipush 10, 2) := by decide +kernel
theorem dX1_classify_6 : decode cX1_classify 6 = .ok (.imul, 1) := by decide +kernel
theorem dX1_classify_7 : decode cX1_classify 7 = .ok (.istore_n 2, 1) := by decide +kernel
theorem dX1_classify_8 : decode cX1_classify 8 = .ok (.iconst 0, 1) := by decide +kernel
theorem dX1_classify_9 : decode cX1_classify 9 = .ok (.istore_n 3, 1) := by decide +kernel
theorem dX1_classify_10 : decode cX1_classify 10 = .ok (.lconst 0, 1) := by decide +kernel
theorem dX1_classify_11 : decode cX1_classify 11 = .ok (.lstore 4, 2) := by decide +kernel
theorem dX1_classify_13 : decode cX1_classify 13 = .ok (.aload_n 0, 1) := by decide +kernel
theorem dX1_classify_14 : decode cX1_classify 14 = .ok (.getfield 15, 3) := by decide +kernel
theorem dX1_classify_17 : decode cX1_classify 17 = .ok (.iconst (-1), 1) := by decide +kernel
theorem dX1_classify_18 : decode cX1_classify 18 = .ok (.invokestatic 86, 3) := by decide +kernel
theorem dX1_classify_21 : decode cX1_classify 21 = .ok (.aload_n 0, 1) := by decide +kernel
theorem dX1_classify_22 : decode cX1_classify 22 = .ok (.getfield 15, 3) := by decide +kernel
theorem dX1_classify_25 : decode cX1_classify 25 = .ok (.aload_n 0, 1) := by decide +kernel
theorem dX1_classify_26 : decode cX1_classify 26 = .ok (.getfield 21, 3) := by decide +kernel
theorem dX1_classify_29 : decode cX1_classify 29 = .ok (.invokevirtual 114, 3) := by decide +kernel
theorem dX1_classify_32 : decode cX1_classify 32 = .ok (.bipush 15, 2) := by decide +kernel
theorem dX1_classify_34 : decode cX1_classify 34 = .ok (.iastore, 1) := by decide +kernel
theorem dX1_classify_35 : decode cX1_classify 35 = .ok (.iconst 0, 1) := by decide +kernel
theorem dX1_classify_36 : decode cX1_classify 36 = .ok (.istore 6, 2) := by decide +kernel
theorem dX1_classify_38 : decode cX1_classify 38 = .ok (.iload 6, 2) := by decide +kernel
theorem dX1_classify_40 : decode cX1_classify 40 = .ok (.aload_n 0, 1) := by decide +kernel
theorem dX1_classify_41 : decode cX1_classify 41 = .ok (.getfield 74, 3) := by decide +kernel
theorem dX1_classify_44 : decode cX1_classify 44 = .ok (.if_icmp .ge 102, 3) := by decide +kernel
theorem dX1_classify_47 : decode cX1_classify 47 = .ok (.aload_n 0, 1) := by decide +kernel
theorem dX1_classify_48 : decode cX1_classify 48 = .ok (.getfield 21, 3) := by decide +kernel
theorem dX1_classify_51 : decode cX1_classify 51 = .ok (.iload_n 1, 1) := by decide +kernel
theorem dX1_classify_52 : decode cX1_classify 52 = .ok (.aload_n 0, 1) := by decide +kernel
theorem dX1_classify_53 : decode cX1_classify 53 = .ok (.getfield 11, 3) := by decide +kernel
theorem dX1_classify_56 : decode cX1_classify 56 = .ok (.iload 6, 2) := by decide +kernel
theorem dX1_classify_58 : decode cX1_classify 58 = .ok (.iaload, 1) := by decide +kernel
theorem dX1_classify_59 : decode cX1_classify 59 = .ok (.invokevirtual 118, 3) := by decide +kernel
theorem dX1_classify_62 : decode cX1_classify 62 = .ok (.istore 7, 2) := by decide +kernel
theorem dX1_classify_64 : decode cX1_classify 64 = .ok (.aload_n 0, 1) := by decide +kernel
theorem dX1_classify_65 : decode cX1_classify 65 = .ok (.getfield 15, 3) := by decide +kernel
theorem dX1_classify_68 : decode cX1_classify 68 = .ok (.iload 7, 2) := by decide +kernel
theorem dX1_classify_70 : decode cX1_classify 70 = .ok (.iaload, 1) := by decide +kernel
theorem dX1_classify_71 : decode cX1_classify 71 = .ok (.iconst (-1), 1) := by decide +kernel
theorem dX1_classify_72 : decode cX1_classify 72 = .ok (.if_icmp .ne 23, 3) := by decide +kernel
theorem dX1_classify_75 : decode cX1_classify 75 = .ok (.aload_n 0, 1) := by decide +kernel
theorem dX1_classify_76 : decode cX1_classify 76 = .ok (.getfield 15, 3) := by decide +kernel
theorem dX1_classify_79 : decode cX1_classify 79 = .ok (.iload 7, 2) := by decide +kernel
theorem dX1_classify_81 : decode cX1_classify 81 = .ok (.iload_n 3, 1) := by decide +kernel
theorem dX1_classify_82 : decode cX1_classify 82 = .ok (.iastore, 1) := by decide +kernel
theorem dX1_classify_83 : decode cX1_classify 83 = .ok (.aload_n 0, 1) := by decide +kernel
theorem dX1_classify_84 : decode cX1_classify 84 = .ok (.getfield 38, 3) := by decide +kernel
theorem dX1_classify_87 : decode cX1_classify 87 = .ok (.iload_n 2, 1) := by decide +kernel
theorem dX1_classify_88 : decode cX1_classify 88 = .ok (.iload_n 3, 1) := by decide +kernel
theorem dX1_classify_89 : decode cX1_classify 89 = .ok (.iadd, 1) := by decide +kernel
theorem dX1_classify_90 : decode cX1_classify 90 = .ok (.iconst 0, 1) := by decide +kernel
theorem dX1_classify_91 : decode cX1_classify 91 = .ok (.iastore, 1) := by decide +kernel
theorem dX1_classify_92 : decode cX1_classify 92 = .ok (.iinc 3 1, 3) := by decide +kernel
theorem dX1_classify_95 : decode cX1_classify 95 = .ok (.aload_n 0, 1) := by decide +kernel
theorem dX1_classify_96 : decode cX1_classify 96 = .ok (.getfield 15, 3) := by decide +kernel
theorem dX1_classify_99 : decode cX1_classify 99 = .ok (.iload 7, 2) := by decide +kernel
theorem dX1_classify_101 : decode cX1_classify 101 = .ok (.iaload, 1) := by decide +kernel
theorem dX1_classify_102 : decode cX1_classify 102 = .ok (.istore 8, 2) := by decide +kernel
theorem dX1_classify_104 : decode cX1_classify 104 = .ok (.iload 8, 2) := by decide +kernel
theorem dX1_classify_106 : decode cX1_classify 106 = .ok (.bipush 15, 2) := by decide +kernel
theorem dX1_classify_108 : decode cX1_classify 108 = .ok (.if_icmp .eq 19, 3) := by decide +kernel
theorem dX1_classify_111 : decode cX1_classify 111 = .ok (.aload_n 0, 1) := by decide +kernel
theorem dX1_classify_112 : decode cX1_classify 112 = .ok (.getfield 38, 3) := by decide +kernel
theorem dX1_classify_115 : decode cX1_classify 115 = .ok (.iload_n 2, 1) := by decide +kernel
theorem dX1_classify_116 : decode cX1_classify 116 = .ok (.iload 8, 2) := by decide +kernel
theorem dX1_classify_118 : decode cX1_classify 118 = .ok (.iadd, 1) := by decide +kernel
theorem dX1_classify_119 : decode cX1_classify 119 = .ok (.dup2, 1) := by decide +kernel
theorem dX1_classify_120 : decode cX1_classify 120 = .ok (.iaload, 1) := by decide +kernel
theorem dX1_classify_121 : decode cX1_classify 121 = .ok (.iconst 1, 1) := by decide +kernel
theorem dX1_classify_122 : decode cX1_classify 122 = .ok (.iload 6, 2) := by decide +kernel
theorem dX1_classify_124 : decode cX1_classify 124 = .ok (.ishl, 1) := by decide +kernel
theorem dX1_classify_125 : decode cX1_classify 125 = .ok (.ior, 1) := by decide +kernel
theorem dX1_classify_126 : decode cX1_classify 126 = .ok (.iastore, 1) := by decide +kernel
theorem dX1_classify_127 : decode cX1_classify 127 = .ok (.lload 4, 2) := by decide +kernel
theorem dX1_classify_129 : decode cX1_classify 129 = .ok (.iload 8, 2) := by decide +kernel
theorem dX1_classify_131 : decode cX1_classify 131 = .ok (.i2l, 1) := by decide +kernel
theorem dX1_classify_132 : decode cX1_classify 132 = .ok (.iconst 4, 1) := by decide +kernel
theorem dX1_classify_133 : decode cX1_classify 133 = .ok (.iload 6, 2) := by decide +kernel
theorem dX1_classify_135 : decode cX1_classify 135 = .ok (.imul, 1) := by decide +kernel
theorem dX1_classify_136 : decode cX1_classify 136 = .ok (.lshl, 1) := by decide +kernel
theorem dX1_classify_137 : decode cX1_classify 137 = .ok (.lor, 1) := by decide +kernel
theorem dX1_classify_138 : decode cX1_classify 138 = .ok (.lstore 4, 2) := by decide +kernel
theorem dX1_classify_140 : decode cX1_classify 140 = .ok (.iinc 6 1, 3) := by decide +kernel
theorem dX1_classify_143 : decode cX1_classify 143 = .ok (.goto (-105), 3) := by decide +kernel
theorem dX1_classify_146 : decode cX1_classify 146 = .ok (.aload_n 0, 1) := by decide +kernel
theorem dX1_classify_147 : decode cX1_classify 147 = .ok (.getfield 35, 3) := by decide +kernel
theorem dX1_classify_150 : decode cX1_classify 150 = .ok (.aload_n 0, 1) := by decide +kernel
theorem dX1_classify_151 : decode cX1_classify 151 = .ok (.getfield 92, 3) := by decide +kernel
theorem dX1_classify_154 : decode cX1_classify 154 = .ok (.iload_n 3, 1) := by decide +kernel
theorem dX1_classify_155 : decode cX1_classify 155 = .ok (.iastore, 1) := by decide +kernel
theorem dX1_classify_156 : decode cX1_classify 156 = .ok (.lload 4, 2) := by decide +kernel
theorem dX1_classify_158 : decode cX1_classify 158 = .ok (.lreturn, 1) := by decide +kernel
theorem dX1_slotOf_0 : decode cX1_slotOf 0 = .ok (.lload_n 1, 1) := by decide +kernel
theorem dX1_slotOf_1 : decode cX1_slotOf 1 = .ok (.ldc2_w 121, 3) := by decide +kernel
theorem dX1_slotOf_4 : decode cX1_slotOf 4 = .ok (.lmul, 1) := by decide +kernel
theorem dX1_slotOf_5 : decode cX1_slotOf 5 = .ok (.bipush 53, 2) := by decide +kernel
theorem dX1_slotOf_7 : decode cX1_slotOf 7 = .ok (.lushr, 1) := by decide +kernel
theorem dX1_slotOf_8 : decode cX1_slotOf 8 = .ok (.l2i, 1) := by decide +kernel
theorem dX1_slotOf_9 : decode cX1_slotOf 9 = .ok (.istore_n 3, 1) := by decide +kernel
theorem dX1_slotOf_10 : decode cX1_slotOf 10 = .ok (.iconst 0, 1) := by decide +kernel
theorem dX1_slotOf_11 : decode cX1_slotOf 11 = .ok (.istore 4, 2) := by decide +kernel
theorem dX1_slotOf_13 : decode cX1_slotOf 13 = .ok (.iload 4, 2) := by decide +kernel
theorem dX1_slotOf_15 : decode cX1_slotOf 15 = .ok (.sipush 2048, 3) := by decide +kernel
theorem dX1_slotOf_18 : decode cX1_slotOf 18 = .ok (.if_icmp .ge 46, 3) := by decide +kernel
theorem dX1_slotOf_21 : decode cX1_slotOf 21 = .ok (.aload_n 0, 1) := by decide +kernel
theorem dX1_slotOf_22 : decode cX1_slotOf 22 = .ok (.getfield 45, 3) := by decide +kernel
theorem dX1_slotOf_25 : decode cX1_slotOf 25 = .ok (.iload_n 3, 1) := by decide +kernel
theorem dX1_slotOf_26 : decode cX1_slotOf 26 = .ok (.iaload, 1) := by decide +kernel
theorem dX1_slotOf_27 : decode cX1_slotOf 27 = .ok (.iconst 1, 1) := by decide +kernel
theorem dX1_slotOf_28 : decode cX1_slotOf 28 = .ok (.isub, 1) := by decide +kernel
theorem dX1_slotOf_29 : decode cX1_slotOf 29 = .ok (.istore 5, 2) := by decide +kernel
theorem dX1_slotOf_31 : decode cX1_slotOf 31 = .ok (.iload 5, 2) := by decide +kernel
theorem dX1_slotOf_33 : decode cX1_slotOf 33 = .ok (.ifCond .lt 15, 3) := by decide +kernel
theorem dX1_slotOf_36 : decode cX1_slotOf 36 = .ok (.aload_n 0, 1) := by decide +kernel
theorem dX1_slotOf_37 : decode cX1_slotOf 37 = .ok (.getfield 41, 3) := by decide +kernel
theorem dX1_slotOf_40 : decode cX1_slotOf 40 = .ok (.iload 5, 2) := by decide +kernel
theorem dX1_slotOf_42 : decode cX1_slotOf 42 = .ok (.laload, 1) := by decide +kernel
theorem dX1_slotOf_43 : decode cX1_slotOf 43 = .ok (.lload_n 1, 1) := by decide +kernel
theorem dX1_slotOf_44 : decode cX1_slotOf 44 = .ok (.lcmp, 1) := by decide +kernel
theorem dX1_slotOf_45 : decode cX1_slotOf 45 = .ok (.ifCond .ne 5, 3) := by decide +kernel
theorem dX1_slotOf_48 : decode cX1_slotOf 48 = .ok (.iload_n 3, 1) := by decide +kernel
theorem dX1_slotOf_49 : decode cX1_slotOf 49 = .ok (.ireturn, 1) := by decide +kernel
theorem dX1_slotOf_50 : decode cX1_slotOf 50 = .ok (.iload_n 3, 1) := by decide +kernel
theorem dX1_slotOf_51 : decode cX1_slotOf 51 = .ok (.iconst 1, 1) := by decide +kernel
theorem dX1_slotOf_52 : decode cX1_slotOf 52 = .ok (.iadd, 1) := by decide +kernel
theorem dX1_slotOf_53 : decode cX1_slotOf 53 = .ok (.sipush 2047, 3) := by decide +kernel
theorem dX1_slotOf_56 : decode cX1_slotOf 56 = .ok (.iand, 1) := by decide +kernel
theorem dX1_slotOf_57 : decode cX1_slotOf 57 = .ok (.istore_n 3, 1) := by decide +kernel
theorem dX1_slotOf_58 : decode cX1_slotOf 58 = .ok (.iinc 4 1, 3) := by decide +kernel
theorem dX1_slotOf_61 : decode cX1_slotOf 61 = .ok (.goto (-48), 3) := by decide +kernel
theorem dX1_slotOf_64 : decode cX1_slotOf 64 = .ok (.iload_n 3, 1) := by decide +kernel
theorem dX1_slotOf_65 : decode cX1_slotOf 65 = .ok (.ireturn, 1) := by decide +kernel
theorem dX1_bitOf_0 : decode cX1_bitOf 0 = .ok (.iconst 0, 1) := by decide +kernel
theorem dX1_bitOf_1 : decode cX1_bitOf 1 = .ok (.istore_n 2, 1) := by decide +kernel
theorem dX1_bitOf_2 : decode cX1_bitOf 2 = .ok (.iload_n 2, 1) := by decide +kernel
theorem dX1_bitOf_3 : decode cX1_bitOf 3 = .ok (.aload_n 0, 1) := by decide +kernel
theorem dX1_bitOf_4 : decode cX1_bitOf 4 = .ok (.getfield 74, 3) := by decide +kernel
theorem dX1_bitOf_7 : decode cX1_bitOf 7 = .ok (.if_icmp .ge 23, 3) := by decide +kernel
theorem dX1_bitOf_10 : decode cX1_bitOf 10 = .ok (.aload_n 0, 1) := by decide +kernel
theorem dX1_bitOf_11 : decode cX1_bitOf 11 = .ok (.getfield 11, 3) := by decide +kernel
theorem dX1_bitOf_14 : decode cX1_bitOf 14 = .ok (.iload_n 2, 1) := by decide +kernel
theorem dX1_bitOf_15 : decode cX1_bitOf 15 = .ok (.iaload, 1) := by decide +kernel
theorem dX1_bitOf_16 : decode cX1_bitOf 16 = .ok (.iload_n 1, 1) := by decide +kernel
theorem dX1_bitOf_17 : decode cX1_bitOf 17 = .ok (.if_icmp .ne 7, 3) := by decide +kernel
theorem dX1_bitOf_20 : decode cX1_bitOf 20 = .ok (.iconst 1, 1) := by decide +kernel
theorem dX1_bitOf_21 : decode cX1_bitOf 21 = .ok (.iload_n 2, 1) := by decide +kernel
theorem dX1_bitOf_22 : decode cX1_bitOf 22 = .ok (.ishl, 1) := by decide +kernel
theorem dX1_bitOf_23 : decode cX1_bitOf 23 = .ok (.ireturn, 1) := by decide +kernel
theorem dX1_bitOf_24 : decode cX1_bitOf 24 = .ok (.iinc 2 1, 3) := by decide +kernel
theorem dX1_bitOf_27 : decode cX1_bitOf 27 = .ok (.goto (-25), 3) := by decide +kernel
theorem dX1_bitOf_30 : decode cX1_bitOf 30 = .ok (.iconst 0, 1) := by decide +kernel
theorem dX1_bitOf_31 : decode cX1_bitOf 31 = .ok (.ireturn, 1) := by decide +kernel
theorem dX1_allMembers_0 : decode cX1_allMembers 0 = .ok (.iconst 1, 1) := by decide +kernel
theorem dX1_allMembers_1 : decode cX1_allMembers 1 = .ok (.aload_n 0, 1) := by decide +kernel
theorem dX1_allMembers_2 : decode cX1_allMembers 2 = .ok (.getfield 74, 3) := by decide +kernel
theorem dX1_allMembers_5 : decode cX1_allMembers 5 = .ok (.ishl, 1) := by decide +kernel
theorem dX1_allMembers_6 : decode cX1_allMembers 6 = .ok (.iconst 1, 1) := by decide +kernel
theorem dX1_allMembers_7 : decode cX1_allMembers 7 = .ok (.isub, 1) := by decide +kernel
theorem dX1_allMembers_8 : decode cX1_allMembers 8 = .ok (.ireturn, 1) := by decide +kernel
theorem dX1_bounded_0 : decode cX1_bounded 0 = .ok (.iload_n 1, 1) := by decide +kernel
theorem dX1_bounded_1 : decode cX1_bounded 1 = .ok (.ifCond .eq 11, 3) := by decide +kernel
theorem dX1_bounded_4 : decode cX1_bounded 4 = .ok (.iload_n 1, 1) := by decide +kernel
theorem dX1_bounded_5 : decode cX1_bounded 5 = .ok (.aload_n 0, 1) := by decide +kernel
theorem dX1_bounded_6 : decode cX1_bounded 6 = .ok (.getfield 74, 3) := by decide +kernel
theorem dX1_bounded_9 : decode cX1_bounded 9 = .ok (.if_icmp .le 10, 3) := by decide +kernel
theorem dX1_bounded_12 : decode cX1_bounded 12 = .ok (.aload_n 0, 1) := by decide +kernel
theorem dX1_bounded_13 : decode cX1_bounded 13 = .ok (.getfield 74, 3) := by decide +kernel
theorem dX1_bounded_16 : decode cX1_bounded 16 = .ok (.goto 4, 3) := by decide +kernel
theorem dX1_bounded_19 : decode cX1_bounded 19 = .ok (.iload_n 1, 1) := by decide +kernel
theorem dX1_bounded_20 : decode cX1_bounded 20 = .ok (.ireturn, 1) := by decide +kernel
theorem dX1_leastSumWithin_0 : decode cX1_leastSumWithin 0 = .ok (.aload_n 0, 1) := by decide +kernel
theorem dX1_leastSumWithin_1 : decode cX1_leastSumWithin 1 = .ok (.aload_n 0, 1) := by decide +kernel
theorem dX1_leastSumWithin_2 : decode cX1_leastSumWithin 2 = .ok (.invokevirtual 123, 3) := by decide +kernel
theorem dX1_leastSumWithin_5 : decode cX1_leastSumWithin 5 = .ok (.aload_n 0, 1) := by decide +kernel
theorem dX1_leastSumWithin_6 : decode cX1_leastSumWithin 6 = .ok (.iload_n 1, 1) := by decide +kernel
theorem dX1_leastSumWithin_7 : decode cX1_leastSumWithin 7 = .ok (.invokevirtual 126, 3) := by decide +kernel
theorem dX1_leastSumWithin_10 : decode cX1_leastSumWithin 10 = .ok (.invokevirtual 129, 3) := by decide +kernel
theorem dX1_leastSumWithin_13 : decode cX1_leastSumWithin 13 = .ok (.ireturn, 1) := by decide +kernel
theorem dX1_firstOfLeastSum_0 : decode cX1_firstOfLeastSum 0 = .ok (.aload_n 0, 1) := by decide +kernel
theorem dX1_firstOfLeastSum_1 : decode cX1_firstOfLeastSum 1 = .ok (.aload_n 0, 1) := by decide +kernel
theorem dX1_firstOfLeastSum_2 : decode cX1_firstOfLeastSum 2 = .ok (.invokevirtual 123, 3) := by decide +kernel
theorem dX1_firstOfLeastSum_5 : decode cX1_firstOfLeastSum 5 = .ok (.aload_n 0, 1) := by decide +kernel
theorem dX1_firstOfLeastSum_6 : decode cX1_firstOfLeastSum 6 = .ok (.iload_n 1, 1) := by decide +kernel
theorem dX1_firstOfLeastSum_7 : decode cX1_firstOfLeastSum 7 = .ok (.invokevirtual 126, 3) := by decide +kernel
theorem dX1_firstOfLeastSum_10 : decode cX1_firstOfLeastSum 10 = .ok (.invokevirtual 132, 3) := by decide +kernel
theorem dX1_firstOfLeastSum_13 : decode cX1_firstOfLeastSum 13 = .ok (.ireturn, 1) := by decide +kernel
theorem dX1_leastDepth_0 : decode cX1_leastDepth 0 = .ok (.iconst 1, 1) := by decide +kernel
theorem dX1_leastDepth_1 : decode cX1_leastDepth 1 = .ok (.istore_n 1, 1) := by decide +kernel
theorem dX1_leastDepth_2 : decode cX1_leastDepth 2 = .ok (.iload_n 1, 1) := by decide +kernel
theorem dX1_leastDepth_3 : decode cX1_leastDepth 3 = .ok (.aload_n 0, 1) := by decide +kernel
theorem dX1_leastDepth_4 : decode cX1_leastDepth 4 = .ok (.getfield 74, 3) := by decide +kernel
theorem dX1_leastDepth_7 : decode cX1_leastDepth 7 = .ok (.if_icmp .ge 21, 3) := by decide +kernel
theorem dX1_leastDepth_10 : decode cX1_leastDepth 10 = .ok (.aload_n 0, 1) := by decide +kernel
theorem dX1_leastDepth_11 : decode cX1_leastDepth 11 = .ok (.aload_n 0, 1) := by decide +kernel
theorem dX1_leastDepth_12 : decode cX1_leastDepth 12 = .ok (.invokevirtual 123, 3) := by decide +kernel
theorem dX1_leastDepth_15 : decode cX1_leastDepth 15 = .ok (.iload_n 1, 1) := by decide +kernel
theorem dX1_leastDepth_16 : decode cX1_leastDepth 16 = .ok (.invokevirtual 129, 3) := by decide +kernel
theorem dX1_leastDepth_19 : decode cX1_leastDepth 19 = .ok (.ifCond .ne 9, 3) := by decide +kernel
theorem dX1_leastDepth_22 : decode cX1_leastDepth 22 = .ok (.iinc 1 1, 3) := by decide +kernel
theorem dX1_leastDepth_25 : decode cX1_leastDepth 25 = .ok (.goto (-23), 3) := by decide +kernel
theorem dX1_leastDepth_28 : decode cX1_leastDepth 28 = .ok (.iload_n 1, 1) := by decide +kernel
theorem dX1_leastDepth_29 : decode cX1_leastDepth 29 = .ok (.ireturn, 1) := by decide +kernel
theorem dX1_firstOfLeastDepth_0 : decode cX1_firstOfLeastDepth 0 = .ok (.aload_n 0, 1) := by decide +kernel
theorem dX1_firstOfLeastDepth_1 : decode cX1_firstOfLeastDepth 1 = .ok (.invokevirtual 135, 3) := by decide +kernel
theorem dX1_firstOfLeastDepth_4 : decode cX1_firstOfLeastDepth 4 = .ok (.istore_n 1, 1) := by decide +kernel
theorem dX1_firstOfLeastDepth_5 : decode cX1_firstOfLeastDepth 5 = .ok (.aload_n 0, 1) := by decide +kernel
theorem dX1_firstOfLeastDepth_6 : decode cX1_firstOfLeastDepth 6 = .ok (.getfield 74, 3) := by decide +kernel
theorem dX1_firstOfLeastDepth_9 : decode cX1_firstOfLeastDepth 9 = .ok (.iconst 1, 1) := by decide +kernel
theorem dX1_firstOfLeastDepth_10 : decode cX1_firstOfLeastDepth 10 = .ok (.if_icmp .le 41, 3) := by decide +kernel
theorem dX1_firstOfLeastDepth_13 : decode cX1_firstOfLeastDepth 13 = .ok (.iconst 0, 1) := by decide +kernel
theorem dX1_firstOfLeastDepth_14 : decode cX1_firstOfLeastDepth 14 = .ok (.istore_n 2, 1) := by decide +kernel
theorem dX1_firstOfLeastDepth_15 : decode cX1_firstOfLeastDepth 15 = .ok (.iload_n 2, 1) := by decide +kernel
theorem dX1_firstOfLeastDepth_16 : decode cX1_firstOfLeastDepth 16 = .ok (.aload_n 0, 1) := by decide +kernel
theorem dX1_firstOfLeastDepth_17 : decode cX1_firstOfLeastDepth 17 = .ok (.getfield 92, 3) := by decide +kernel
theorem dX1_firstOfLeastDepth_20 : decode cX1_firstOfLeastDepth 20 = .ok (.if_icmp .ge 31, 3) := by decide +kernel
theorem dX1_firstOfLeastDepth_23 : decode cX1_firstOfLeastDepth 23 = .ok (.aload_n 0, 1) := by decide +kernel
theorem dX1_firstOfLeastDepth_24 : decode cX1_firstOfLeastDepth 24 = .ok (.iload_n 2, 1) := by decide +kernel
theorem dX1_firstOfLeastDepth_25 : decode cX1_firstOfLeastDepth 25 = .ok (.aload_n 0, 1) := by decide +kernel
theorem dX1_firstOfLeastDepth_26 : decode cX1_firstOfLeastDepth 26 = .ok (.invokevirtual 123, 3) := by decide +kernel
theorem dX1_firstOfLeastDepth_29 : decode cX1_firstOfLeastDepth 29 = .ok (.iload_n 1, 1) := by decide +kernel
theorem dX1_firstOfLeastDepth_30 : decode cX1_firstOfLeastDepth 30 = .ok (.ldc 138, 2) := by decide +kernel
theorem dX1_firstOfLeastDepth_32 : decode cX1_firstOfLeastDepth 32 = .ok (.invokevirtual 139, 3) := by decide +kernel
theorem dX1_firstOfLeastDepth_35 : decode cX1_firstOfLeastDepth 35 = .ok (.ifCond .le 10, 3) := by decide +kernel
theorem dX1_firstOfLeastDepth_38 : decode cX1_firstOfLeastDepth 38 = .ok (.aload_n 0, 1) := by decide +kernel
theorem dX1_firstOfLeastDepth_39 : decode cX1_firstOfLeastDepth 39 = .ok (.getfield 29, 3) := by decide +kernel
theorem dX1_firstOfLeastDepth_42 : decode cX1_firstOfLeastDepth 42 = .ok (.iload_n 2, 1) := by decide +kernel
theorem dX1_firstOfLeastDepth_43 : decode cX1_firstOfLeastDepth 43 = .ok (.iaload, 1) := by decide +kernel
theorem dX1_firstOfLeastDepth_44 : decode cX1_firstOfLeastDepth 44 = .ok (.ireturn, 1) := by decide +kernel
theorem dX1_firstOfLeastDepth_45 : decode cX1_firstOfLeastDepth 45 = .ok (.iinc 2 1, 3) := by decide +kernel
theorem dX1_firstOfLeastDepth_48 : decode cX1_firstOfLeastDepth 48 = .ok (.goto (-33), 3) := by decide +kernel
theorem dX1_firstOfLeastDepth_51 : decode cX1_firstOfLeastDepth 51 = .ok (.aload_n 0, 1) := by decide +kernel
theorem dX1_firstOfLeastDepth_52 : decode cX1_firstOfLeastDepth 52 = .ok (.getfield 11, 3) := by decide +kernel
theorem dX1_firstOfLeastDepth_55 : decode cX1_firstOfLeastDepth 55 = .ok (.iconst 0, 1) := by decide +kernel
theorem dX1_firstOfLeastDepth_56 : decode cX1_firstOfLeastDepth 56 = .ok (.iaload, 1) := by decide +kernel
theorem dX1_firstOfLeastDepth_57 : decode cX1_firstOfLeastDepth 57 = .ok (.ireturn, 1) := by decide +kernel
theorem dX1_leastSum_0 : decode cX1_leastSum 0 = .ok (.iload_n 1, 1) := by decide +kernel
theorem dX1_leastSum_1 : decode cX1_leastSum 1 = .ok (.invokestatic 143, 3) := by decide +kernel
theorem dX1_leastSum_4 : decode cX1_leastSum 4 = .ok (.istore_n 3, 1) := by decide +kernel
theorem dX1_leastSum_5 : decode cX1_leastSum 5 = .ok (.iload_n 3, 1) := by decide +kernel
theorem dX1_leastSum_6 : decode cX1_leastSum 6 = .ok (.ifCond .eq 8, 3) := by decide +kernel
theorem dX1_leastSum_9 : decode cX1_leastSum 9 = .ok (.iload_n 2, 1) := by decide +kernel
theorem dX1_leastSum_10 : decode cX1_leastSum 10 = .ok (.iconst 1, 1) := by decide +kernel
theorem dX1_leastSum_11 : decode cX1_leastSum 11 = .ok (.if_icmp .ge 5, 3) := by decide +kernel
theorem dX1_leastSum_14 : decode cX1_leastSum 14 = .ok (.iconst 0, 1) := by decide +kernel
theorem dX1_leastSum_15 : decode cX1_leastSum 15 = .ok (.ireturn, 1) := by decide +kernel
theorem dX1_leastSum_16 : decode cX1_leastSum 16 = .ok (.iload_n 3, 1) := by decide +kernel
theorem dX1_leastSum_17 : decode cX1_leastSum 17 = .ok (.iconst 1, 1) := by decide +kernel
theorem dX1_leastSum_18 : decode cX1_leastSum 18 = .ok (.if_icmp .ne 5, 3) := by decide +kernel
theorem dX1_leastSum_21 : decode cX1_leastSum 21 = .ok (.iconst 1, 1) := by decide +kernel
theorem dX1_leastSum_22 : decode cX1_leastSum 22 = .ok (.ireturn, 1) := by decide +kernel
theorem dX1_leastSum_23 : decode cX1_leastSum 23 = .ok (.iload_n 2, 1) := by decide +kernel
theorem dX1_leastSum_24 : decode cX1_leastSum 24 = .ok (.iconst 2, 1) := by decide +kernel
theorem dX1_leastSum_25 : decode cX1_leastSum 25 = .ok (.if_icmp .ge 5, 3) := by decide +kernel
theorem dX1_leastSum_28 : decode cX1_leastSum 28 = .ok (.iconst 0, 1) := by decide +kernel
theorem dX1_leastSum_29 : decode cX1_leastSum 29 = .ok (.ireturn, 1) := by decide +kernel
theorem dX1_leastSum_30 : decode cX1_leastSum 30 = .ok (.iload_n 3, 1) := by decide +kernel
theorem dX1_leastSum_31 : decode cX1_leastSum 31 = .ok (.iconst 2, 1) := by decide +kernel
theorem dX1_leastSum_32 : decode cX1_leastSum 32 = .ok (.if_icmp .ne 5, 3) := by decide +kernel
theorem dX1_leastSum_35 : decode cX1_leastSum 35 = .ok (.iconst 3, 1) := by decide +kernel
theorem dX1_leastSum_36 : decode cX1_leastSum 36 = .ok (.ireturn, 1) := by decide +kernel
theorem dX1_leastSum_37 : decode cX1_leastSum 37 = .ok (.aload_n 0, 1) := by decide +kernel
theorem dX1_leastSum_38 : decode cX1_leastSum 38 = .ok (.iload_n 1, 1) := by decide +kernel
theorem dX1_leastSum_39 : decode cX1_leastSum 39 = .ok (.iload_n 2, 1) := by decide +kernel
theorem dX1_leastSum_40 : decode cX1_leastSum 40 = .ok (.iload_n 3, 1) := by decide +kernel
theorem dX1_leastSum_41 : decode cX1_leastSum 41 = .ok (.invokestatic 68, 3) := by decide +kernel
theorem dX1_leastSum_44 : decode cX1_leastSum 44 = .ok (.invokevirtual 148, 3) := by decide +kernel
theorem dX1_leastSum_47 : decode cX1_leastSum 47 = .ok (.istore 4, 2) := by decide +kernel
theorem dX1_leastSum_49 : decode cX1_leastSum 49 = .ok (.iload 4, 2) := by decide +kernel
theorem dX1_leastSum_51 : decode cX1_leastSum 51 = .ok (.iconst (-1), 1) := by decide +kernel
theorem dX1_leastSum_52 : decode cX1_leastSum 52 = .ok (.if_icmp .ne 7, 3) := by decide +kernel
theorem dX1_leastSum_55 : decode cX1_leastSum 55 = .ok (.iconst 0, 1) := by decide +kernel
theorem dX1_leastSum_56 : decode cX1_leastSum 56 = .ok (.goto 8, 3) := by decide +kernel
theorem dX1_leastSum_59 : decode cX1_leastSum 59 = .ok (.iload 4, 2) := by decide +kernel
theorem dX1_leastSum_61 : decode cX1_leastSum 61 = .ok (.bipush 11, 2) := by decide +kernel
theorem dX1_leastSum_63 : decode cX1_leastSum 63 = .ok (.iushr, 1) := by decide +kernel
theorem dX1_leastSum_64 : decode cX1_leastSum 64 = .ok (.ireturn, 1) := by decide +kernel
theorem dX1_shortOf_0 : decode cX1_shortOf 0 = .ok (.iload_n 2, 1) := by decide +kernel
theorem dX1_shortOf_1 : decode cX1_shortOf 1 = .ok (.sipush 1024, 3) := by decide +kernel
theorem dX1_shortOf_4 : decode cX1_shortOf 4 = .ok (.imul, 1) := by decide +kernel
theorem dX1_shortOf_5 : decode cX1_shortOf 5 = .ok (.iload_n 1, 1) := by decide +kernel
theorem dX1_shortOf_6 : decode cX1_shortOf 6 = .ok (.iadd, 1) := by decide +kernel
theorem dX1_shortOf_7 : decode cX1_shortOf 7 = .ok (.istore_n 3, 1) := by decide +kernel
theorem dX1_shortOf_8 : decode cX1_shortOf 8 = .ok (.aload_n 0, 1) := by decide +kernel
theorem dX1_shortOf_9 : decode cX1_shortOf 9 = .ok (.getfield 18, 3) := by decide +kernel
theorem dX1_shortOf_12 : decode cX1_shortOf 12 = .ok (.iload_n 3, 1) := by decide +kernel
theorem dX1_shortOf_13 : decode cX1_shortOf 13 = .ok (.iaload, 1) := by decide +kernel
theorem dX1_shortOf_14 : decode cX1_shortOf 14 = .ok (.ifCond .ne 15, 3) := by decide +kernel
theorem dX1_shortOf_17 : decode cX1_shortOf 17 = .ok (.aload_n 0, 1) := by decide +kernel
theorem dX1_shortOf_18 : decode cX1_shortOf 18 = .ok (.getfield 18, 3) := by decide +kernel
theorem dX1_shortOf_21 : decode cX1_shortOf 21 = .ok (.iload_n 3, 1) := by decide +kernel
theorem dX1_shortOf_22 : decode cX1_shortOf 22 = .ok (.aload_n 0, 1) := by decide +kernel
theorem dX1_shortOf_23 : decode cX1_shortOf 23 = .ok (.iload_n 1, 1) := by decide +kernel
theorem dX1_shortOf_24 : decode cX1_shortOf 24 = .ok (.iload_n 2, 1) := by decide +kernel
theorem dX1_shortOf_25 : decode cX1_shortOf 25 = .ok (.invokevirtual 151, 3) := by decide +kernel
theorem dX1_shortOf_28 : decode cX1_shortOf 28 = .ok (.iastore, 1) := by decide +kernel
theorem dX1_shortOf_29 : decode cX1_shortOf 29 = .ok (.aload_n 0, 1) := by decide +kernel
theorem dX1_shortOf_30 : decode cX1_shortOf 30 = .ok (.getfield 18, 3) := by decide +kernel
theorem dX1_shortOf_33 : decode cX1_shortOf 33 = .ok (.iload_n 3, 1) := by decide +kernel
theorem dX1_shortOf_34 : decode cX1_shortOf 34 = .ok (.iaload, 1) := by decide +kernel
theorem dX1_shortOf_35 : decode cX1_shortOf 35 = .ok (.ireturn, 1) := by decide +kernel
theorem dX1_findShort_0 : decode cX1_findShort 0 = .ok (.iload_n 1, 1) := by decide +kernel
theorem dX1_findShort_1 : decode cX1_findShort 1 = .ok (.invokestatic 143, 3) := by decide +kernel
theorem dX1_findShort_4 : decode cX1_findShort 4 = .ok (.istore_n 3, 1) := by decide +kernel
theorem dX1_findShort_5 : decode cX1_findShort 5 = .ok (.iconst 2, 1) := by decide +kernel
theorem dX1_findShort_6 : decode cX1_findShort 6 = .ok (.iload_n 3, 1) := by decide +kernel
theorem dX1_findShort_7 : decode cX1_findShort 7 = .ok (.imul, 1) := by decide +kernel
theorem dX1_findShort_8 : decode cX1_findShort 8 = .ok (.iconst 1, 1) := by decide +kernel
theorem dX1_findShort_9 : decode cX1_findShort 9 = .ok (.isub, 1) := by decide +kernel
theorem dX1_findShort_10 : decode cX1_findShort 10 = .ok (.istore 4, 2) := by decide +kernel
theorem dX1_findShort_12 : decode cX1_findShort 12 = .ok (.ldc 138, 2) := by decide +kernel
theorem dX1_findShort_14 : decode cX1_findShort 14 = .ok (.istore 5, 2) := by decide +kernel
theorem dX1_findShort_16 : decode cX1_findShort 16 = .ok (.iconst 0, 1) := by decide +kernel
theorem dX1_findShort_17 : decode cX1_findShort 17 = .ok (.istore 6, 2) := by decide +kernel
theorem dX1_findShort_19 : decode cX1_findShort 19 = .ok (.iconst 0, 1) := by decide +kernel
theorem dX1_findShort_20 : decode cX1_findShort 20 = .ok (.istore 7, 2) := by decide +kernel
theorem dX1_findShort_22 : decode cX1_findShort 22 = .ok (.iload 7, 2) := by decide +kernel
theorem dX1_findShort_24 : decode cX1_findShort 24 = .ok (.aload_n 0, 1) := by decide +kernel
theorem dX1_findShort_25 : decode cX1_findShort 25 = .ok (.getfield 92, 3) := by decide +kernel
theorem dX1_findShort_28 : decode cX1_findShort 28 = .ok (.if_icmp .ge 41, 3) := by decide +kernel
theorem dX1_findShort_31 : decode cX1_findShort 31 = .ok (.iload 5, 2) := by decide +kernel
theorem dX1_findShort_33 : decode cX1_findShort 33 = .ok (.iload 4, 2) := by decide +kernel
theorem dX1_findShort_35 : decode cX1_findShort 35 = .ok (.if_icmp .le 34, 3) := by decide +kernel
theorem dX1_findShort_38 : decode cX1_findShort 38 = .ok (.aload_n 0, 1) := by decide +kernel
theorem dX1_findShort_39 : decode cX1_findShort 39 = .ok (.iload 7, 2) := by decide +kernel
theorem dX1_findShort_41 : decode cX1_findShort 41 = .ok (.iload_n 1, 1) := by decide +kernel
theorem dX1_findShort_42 : decode cX1_findShort 42 = .ok (.iload_n 2, 1) := by decide +kernel
theorem dX1_findShort_43 : decode cX1_findShort 43 = .ok (.iload 5, 2) := by decide +kernel
theorem dX1_findShort_45 : decode cX1_findShort 45 = .ok (.invokevirtual 139, 3) := by decide +kernel
theorem dX1_findShort_48 : decode cX1_findShort 48 = .ok (.istore 8, 2) := by decide +kernel
theorem dX1_findShort_50 : decode cX1_findShort 50 = .ok (.iload 8, 2) := by decide +kernel
theorem dX1_findShort_52 : decode cX1_findShort 52 = .ok (.ifCond .le 11, 3) := by decide +kernel
theorem dX1_findShort_55 : decode cX1_findShort 55 = .ok (.iload 8, 2) := by decide +kernel
theorem dX1_findShort_57 : decode cX1_findShort 57 = .ok (.istore 5, 2) := by decide +kernel
theorem dX1_findShort_59 : decode cX1_findShort 59 = .ok (.iload 7, 2) := by decide +kernel
theorem dX1_findShort_61 : decode cX1_findShort 61 = .ok (.istore 6, 2) := by decide +kernel
theorem dX1_findShort_63 : decode cX1_findShort 63 = .ok (.iinc 7 1, 3) := by decide +kernel
theorem dX1_findShort_66 : decode cX1_findShort 66 = .ok (.goto (-44), 3) := by decide +kernel
theorem dX1_findShort_69 : decode cX1_findShort 69 = .ok (.iload 5, 2) := by decide +kernel
theorem dX1_findShort_71 : decode cX1_findShort 71 = .ok (.ldc 138, 2) := by decide +kernel
theorem dX1_findShort_73 : decode cX1_findShort 73 = .ok (.if_icmp .ne 7, 3) := by decide +kernel
theorem dX1_findShort_76 : decode cX1_findShort 76 = .ok (.iconst (-1), 1) := by decide +kernel
theorem dX1_findShort_77 : decode cX1_findShort 77 = .ok (.goto 11, 3) := by decide +kernel
theorem dX1_findShort_80 : decode cX1_findShort 80 = .ok (.iload 5, 2) := by decide +kernel
theorem dX1_findShort_82 : decode cX1_findShort 82 = .ok (.bipush 11, 2) := by decide +kernel
theorem dX1_findShort_84 : decode cX1_findShort 84 = .ok (.ishl, 1) := by decide +kernel
theorem dX1_findShort_85 : decode cX1_findShort 85 = .ok (.iload 6, 2) := by decide +kernel
theorem dX1_findShort_87 : decode cX1_findShort 87 = .ok (.ior, 1) := by decide +kernel
theorem dX1_findShort_88 : decode cX1_findShort 88 = .ok (.ireturn, 1) := by decide +kernel
theorem dX1_sumBehind_0 : decode cX1_sumBehind 0 = .ok (.aload_n 0, 1) := by decide +kernel
theorem dX1_sumBehind_1 : decode cX1_sumBehind 1 = .ok (.getfield 32, 3) := by decide +kernel
theorem dX1_sumBehind_4 : decode cX1_sumBehind 4 = .ok (.iload_n 1, 1) := by decide +kernel
theorem dX1_sumBehind_5 : decode cX1_sumBehind 5 = .ok (.iaload, 1) := by decide +kernel
theorem dX1_sumBehind_6 : decode cX1_sumBehind 6 = .ok (.iload_n 2, 1) := by decide +kernel
theorem dX1_sumBehind_7 : decode cX1_sumBehind 7 = .ok (.iand, 1) := by decide +kernel
theorem dX1_sumBehind_8 : decode cX1_sumBehind 8 = .ok (.ifCond .eq 7, 3) := by decide +kernel
theorem dX1_sumBehind_11 : decode cX1_sumBehind 11 = .ok (.iconst 1, 1) := by decide +kernel
theorem dX1_sumBehind_12 : decode cX1_sumBehind 12 = .ok (.goto 4, 3) := by decide +kernel
theorem dX1_sumBehind_15 : decode cX1_sumBehind 15 = .ok (.iconst 0, 1) := by decide +kernel
theorem dX1_sumBehind_16 : decode cX1_sumBehind 16 = .ok (.istore 5, 2) := by decide +kernel
theorem dX1_sumBehind_18 : decode cX1_sumBehind 18 = .ok (.aload_n 0, 1) := by decide +kernel
theorem dX1_sumBehind_19 : decode cX1_sumBehind 19 = .ok (.iload_n 1, 1) := by decide +kernel
theorem dX1_sumBehind_20 : decode cX1_sumBehind 20 = .ok (.iload_n 2, 1) := by decide +kernel
theorem dX1_sumBehind_21 : decode cX1_sumBehind 21 = .ok (.invokevirtual 154, 3) := by decide +kernel
theorem dX1_sumBehind_24 : decode cX1_sumBehind 24 = .ok (.istore 6, 2) := by decide +kernel
theorem dX1_sumBehind_26 : decode cX1_sumBehind 26 = .ok (.iload 5, 2) := by decide +kernel
theorem dX1_sumBehind_28 : decode cX1_sumBehind 28 = .ok (.ifCond .eq 12, 3) := by decide +kernel
theorem dX1_sumBehind_31 : decode cX1_sumBehind 31 = .ok (.iload 6, 2) := by decide +kernel
theorem dX1_sumBehind_33 : decode cX1_sumBehind 33 = .ok (.iconst 1, 1) := by decide +kernel
theorem dX1_sumBehind_34 : decode cX1_sumBehind 34 = .ok (.if_icmp .ge 21, 3) := by decide +kernel
theorem dX1_sumBehind_37 : decode cX1_sumBehind 37 = .ok (.goto 16, 3) := by decide +kernel
theorem dX1_sumBehind_40 : decode cX1_sumBehind 40 = .ok (.aload_n 0, 1) := by decide +kernel
theorem dX1_sumBehind_41 : decode cX1_sumBehind 41 = .ok (.getfield 25, 3) := by decide +kernel
theorem dX1_sumBehind_44 : decode cX1_sumBehind 44 = .ok (.ifCond .eq 9, 3) := by decide +kernel
theorem dX1_sumBehind_47 : decode cX1_sumBehind 47 = .ok (.iload 6, 2) := by decide +kernel
theorem dX1_sumBehind_49 : decode cX1_sumBehind 49 = .ok (.iconst 2, 1) := by decide +kernel
theorem dX1_sumBehind_50 : decode cX1_sumBehind 50 = .ok (.if_icmp .ge 5, 3) := by decide +kernel
theorem dX1_sumBehind_53 : decode cX1_sumBehind 53 = .ok (.iconst 0, 1) := by decide +kernel
theorem dX1_sumBehind_54 : decode cX1_sumBehind 54 = .ok (.ireturn, 1) := by decide +kernel
theorem dX1_sumBehind_55 : decode cX1_sumBehind 55 = .ok (.iconst 3, 1) := by decide +kernel
theorem dX1_sumBehind_56 : decode cX1_sumBehind 56 = .ok (.iload_n 2, 1) := by decide +kernel
theorem dX1_sumBehind_57 : decode cX1_sumBehind 57 = .ok (.invokestatic 143, 3) := by decide +kernel
theorem dX1_sumBehind_60 : decode cX1_sumBehind 60 = .ok (.imul, 1) := by decide +kernel
theorem dX1_sumBehind_61 : decode cX1_sumBehind 61 = .ok (.iload 6, 2) := by decide +kernel
theorem dX1_sumBehind_63 : decode cX1_sumBehind 63 = .ok (.isub, 1) := by decide +kernel
theorem dX1_sumBehind_64 : decode cX1_sumBehind 64 = .ok (.iload 5, 2) := by decide +kernel
theorem dX1_sumBehind_66 : decode cX1_sumBehind 66 = .ok (.ifCond .eq 7, 3) := by decide +kernel
theorem dX1_sumBehind_69 : decode cX1_sumBehind 69 = .ok (.iconst 2, 1) := by decide +kernel
theorem dX1_sumBehind_70 : decode cX1_sumBehind 70 = .ok (.goto 4, 3) := by decide +kernel
theorem dX1_sumBehind_73 : decode cX1_sumBehind 73 = .ok (.iconst 0, 1) := by decide +kernel
theorem dX1_sumBehind_74 : decode cX1_sumBehind 74 = .ok (.isub, 1) := by decide +kernel
theorem dX1_sumBehind_75 : decode cX1_sumBehind 75 = .ok (.istore 7, 2) := by decide +kernel
theorem dX1_sumBehind_77 : decode cX1_sumBehind 77 = .ok (.iload_n 1, 1) := by decide +kernel
theorem dX1_sumBehind_78 : decode cX1_sumBehind 78 = .ok (.bipush 10, 2) := by decide +kernel
theorem dX1_sumBehind_80 : decode cX1_sumBehind 80 = .ok (.imul, 1) := by decide +kernel
theorem dX1_sumBehind_81 : decode cX1_sumBehind 81 = .ok (.istore 8, 2) := by decide +kernel
theorem dX1_sumBehind_83 : decode cX1_sumBehind 83 = .ok (.iconst 0, 1) := by decide +kernel
theorem dX1_sumBehind_84 : decode cX1_sumBehind 84 = .ok (.istore 9, 2) := by decide +kernel
theorem dX1_sumBehind_86 : decode cX1_sumBehind 86 = .ok (.iload 9, 2) := by decide +kernel
theorem dX1_sumBehind_88 : decode cX1_sumBehind 88 = .ok (.aload_n 0, 1) := by decide +kernel
theorem dX1_sumBehind_89 : decode cX1_sumBehind 89 = .ok (.getfield 35, 3) := by decide +kernel
theorem dX1_sumBehind_92 : decode cX1_sumBehind 92 = .ok (.iload_n 1, 1) := by decide +kernel
theorem dX1_sumBehind_93 : decode cX1_sumBehind 93 = .ok (.iaload, 1) := by decide +kernel
theorem dX1_sumBehind_94 : decode cX1_sumBehind 94 = .ok (.if_icmp .ge 70, 3) := by decide +kernel
theorem dX1_sumBehind_97 : decode cX1_sumBehind 97 = .ok (.iload 7, 2) := by decide +kernel
theorem dX1_sumBehind_99 : decode cX1_sumBehind 99 = .ok (.iload 4, 2) := by decide +kernel
theorem dX1_sumBehind_101 : decode cX1_sumBehind 101 = .ok (.if_icmp .ge 63, 3) := by decide +kernel
theorem dX1_sumBehind_104 : decode cX1_sumBehind 104 = .ok (.aload_n 0, 1) := by decide +kernel
theorem dX1_sumBehind_105 : decode cX1_sumBehind 105 = .ok (.getfield 38, 3) := by decide +kernel
theorem dX1_sumBehind_108 : decode cX1_sumBehind 108 = .ok (.iload 8, 2) := by decide +kernel
theorem dX1_sumBehind_110 : decode cX1_sumBehind 110 = .ok (.iload 9, 2) := by decide +kernel
theorem dX1_sumBehind_112 : decode cX1_sumBehind 112 = .ok (.iadd, 1) := by decide +kernel
theorem dX1_sumBehind_113 : decode cX1_sumBehind 113 = .ok (.iaload, 1) := by decide +kernel
theorem dX1_sumBehind_114 : decode cX1_sumBehind 114 = .ok (.iload_n 2, 1) := by decide +kernel
theorem dX1_sumBehind_115 : decode cX1_sumBehind 115 = .ok (.iand, 1) := by decide +kernel
theorem dX1_sumBehind_116 : decode cX1_sumBehind 116 = .ok (.istore 10, 2) := by decide +kernel
theorem dX1_sumBehind_118 : decode cX1_sumBehind 118 = .ok (.iload 10, 2) := by decide +kernel
theorem dX1_sumBehind_120 : decode cX1_sumBehind 120 = .ok (.ifCond .eq 38, 3) := by decide +kernel
theorem dX1_sumBehind_123 : decode cX1_sumBehind 123 = .ok (.aload_n 0, 1) := by decide +kernel
theorem dX1_sumBehind_124 : decode cX1_sumBehind 124 = .ok (.iload 10, 2) := by decide +kernel
theorem dX1_sumBehind_126 : decode cX1_sumBehind 126 = .ok (.iload_n 3, 1) := by decide +kernel
theorem dX1_sumBehind_127 : decode cX1_sumBehind 127 = .ok (.iconst 1, 1) := by decide +kernel
theorem dX1_sumBehind_128 : decode cX1_sumBehind 128 = .ok (.isub, 1) := by decide +kernel
theorem dX1_sumBehind_129 : decode cX1_sumBehind 129 = .ok (.invokevirtual 129, 3) := by decide +kernel
theorem dX1_sumBehind_132 : decode cX1_sumBehind 132 = .ok (.istore 11, 2) := by decide +kernel
theorem dX1_sumBehind_134 : decode cX1_sumBehind 134 = .ok (.iload 11, 2) := by decide +kernel
theorem dX1_sumBehind_136 : decode cX1_sumBehind 136 = .ok (.ifCond .ne 5, 3) := by decide +kernel
theorem dX1_sumBehind_139 : decode cX1_sumBehind 139 = .ok (.iconst 0, 1) := by decide +kernel
theorem dX1_sumBehind_140 : decode cX1_sumBehind 140 = .ok (.ireturn, 1) := by decide +kernel
theorem dX1_sumBehind_141 : decode cX1_sumBehind 141 = .ok (.iload 7, 2) := by decide +kernel
theorem dX1_sumBehind_143 : decode cX1_sumBehind 143 = .ok (.iload 11, 2) := by decide +kernel
theorem dX1_sumBehind_145 : decode cX1_sumBehind 145 = .ok (.iconst 2, 1) := by decide +kernel
theorem dX1_sumBehind_146 : decode cX1_sumBehind 146 = .ok (.iload 10, 2) := by decide +kernel
theorem dX1_sumBehind_148 : decode cX1_sumBehind 148 = .ok (.invokestatic 143, 3) := by decide +kernel
theorem dX1_sumBehind_151 : decode cX1_sumBehind 151 = .ok (.imul, 1) := by decide +kernel
theorem dX1_sumBehind_152 : decode cX1_sumBehind 152 = .ok (.iconst 1, 1) := by decide +kernel
theorem dX1_sumBehind_153 : decode cX1_sumBehind 153 = .ok (.isub, 1) := by decide +kernel
theorem dX1_sumBehind_154 : decode cX1_sumBehind 154 = .ok (.isub, 1) := by decide +kernel
theorem dX1_sumBehind_155 : decode cX1_sumBehind 155 = .ok (.iadd, 1) := by decide +kernel
theorem dX1_sumBehind_156 : decode cX1_sumBehind 156 = .ok (.istore 7, 2) := by decide +kernel
theorem dX1_sumBehind_158 : decode cX1_sumBehind 158 = .ok (.iinc 9 1, 3) := by decide +kernel
theorem dX1_sumBehind_161 : decode cX1_sumBehind 161 = .ok (.goto (-75), 3) := by decide +kernel
theorem dX1_sumBehind_164 : decode cX1_sumBehind 164 = .ok (.iload 7, 2) := by decide +kernel
theorem dX1_sumBehind_166 : decode cX1_sumBehind 166 = .ok (.iload 4, 2) := by decide +kernel
theorem dX1_sumBehind_168 : decode cX1_sumBehind 168 = .ok (.if_icmp .ge 8, 3) := by decide +kernel
theorem dX1_sumBehind_171 : decode cX1_sumBehind 171 = .ok (.iload 7, 2) := by decide +kernel
theorem dX1_sumBehind_173 : decode cX1_sumBehind 173 = .ok (.goto 4, 3) := by decide +kernel
theorem dX1_sumBehind_176 : decode cX1_sumBehind 176 = .ok (.iconst 0, 1) := by decide +kernel
theorem dX1_sumBehind_177 : decode cX1_sumBehind 177 = .ok (.ireturn, 1) := by decide +kernel
theorem dX1_classesIn_0 : decode cX1_classesIn 0 = .ok (.iload_n 1, 1) := by decide +kernel
theorem dX1_classesIn_1 : decode cX1_classesIn 1 = .ok (.bipush 10, 2) := by decide +kernel
theorem dX1_classesIn_3 : decode cX1_classesIn 3 = .ok (.imul, 1) := by decide +kernel
theorem dX1_classesIn_4 : decode cX1_classesIn 4 = .ok (.istore_n 3, 1) := by decide +kernel
theorem dX1_classesIn_5 : decode cX1_classesIn 5 = .ok (.iconst 0, 1) := by decide +kernel
theorem dX1_classesIn_6 : decode cX1_classesIn 6 = .ok (.istore 4, 2) := by decide +kernel
theorem dX1_classesIn_8 : decode cX1_classesIn 8 = .ok (.iconst 0, 1) := by decide +kernel
theorem dX1_classesIn_9 : decode cX1_classesIn 9 = .ok (.istore 5, 2) := by decide +kernel
theorem dX1_classesIn_11 : decode cX1_classesIn 11 = .ok (.iload 5, 2) := by decide +kernel
theorem dX1_classesIn_13 : decode cX1_classesIn 13 = .ok (.aload_n 0, 1) := by decide +kernel
theorem dX1_classesIn_14 : decode cX1_classesIn 14 = .ok (.getfield 35, 3) := by decide +kernel
theorem dX1_classesIn_17 : decode cX1_classesIn 17 = .ok (.iload_n 1, 1) := by decide +kernel
theorem dX1_classesIn_18 : decode cX1_classesIn 18 = .ok (.iaload, 1) := by decide +kernel
theorem dX1_classesIn_19 : decode cX1_classesIn 19 = .ok (.if_icmp .ge 26, 3) := by decide +kernel
theorem dX1_classesIn_22 : decode cX1_classesIn 22 = .ok (.aload_n 0, 1) := by decide +kernel
theorem dX1_classesIn_23 : decode cX1_classesIn 23 = .ok (.getfield 38, 3) := by decide +kernel
theorem dX1_classesIn_26 : decode cX1_classesIn 26 = .ok (.iload_n 3, 1) := by decide +kernel
theorem dX1_classesIn_27 : decode cX1_classesIn 27 = .ok (.iload 5, 2) := by decide +kernel
theorem dX1_classesIn_29 : decode cX1_classesIn 29 = .ok (.iadd, 1) := by decide +kernel
theorem dX1_classesIn_30 : decode cX1_classesIn 30 = .ok (.iaload, 1) := by decide +kernel
theorem dX1_classesIn_31 : decode cX1_classesIn 31 = .ok (.iload_n 2, 1) := by decide +kernel
theorem dX1_classesIn_32 : decode cX1_classesIn 32 = .ok (.iand, 1) := by decide +kernel
theorem dX1_classesIn_33 : decode cX1_classesIn 33 = .ok (.ifCond .eq 6, 3) := by decide +kernel
theorem dX1_classesIn_36 : decode cX1_classesIn 36 = .ok (.iinc 4 1, 3) := by decide +kernel
theorem dX1_classesIn_39 : decode cX1_classesIn 39 = .ok (.iinc 5 1, 3) := by decide +kernel
theorem dX1_classesIn_42 : decode cX1_classesIn 42 = .ok (.goto (-31), 3) := by decide +kernel
theorem dX1_classesIn_45 : decode cX1_classesIn 45 = .ok (.iload 4, 2) := by decide +kernel
theorem dX1_classesIn_47 : decode cX1_classesIn 47 = .ok (.ireturn, 1) := by decide +kernel
theorem dX1_shortGuess_0 : decode cX1_shortGuess 0 = .ok (.iload_n 1, 1) := by decide +kernel
theorem dX1_shortGuess_1 : decode cX1_shortGuess 1 = .ok (.invokestatic 143, 3) := by decide +kernel
theorem dX1_shortGuess_4 : decode cX1_shortGuess 4 = .ok (.istore_n 3, 1) := by decide +kernel
theorem dX1_shortGuess_5 : decode cX1_shortGuess 5 = .ok (.iload_n 3, 1) := by decide +kernel
theorem dX1_shortGuess_6 : decode cX1_shortGuess 6 = .ok (.iconst 2, 1) := by decide +kernel
theorem dX1_shortGuess_7 : decode cX1_shortGuess 7 = .ok (.if_icmp .le 37, 3) := by decide +kernel
theorem dX1_shortGuess_10 : decode cX1_shortGuess 10 = .ok (.aload_n 0, 1) := by decide +kernel
theorem dX1_shortGuess_11 : decode cX1_shortGuess 11 = .ok (.iload_n 1, 1) := by decide +kernel
theorem dX1_shortGuess_12 : decode cX1_shortGuess 12 = .ok (.iload_n 2, 1) := by decide +kernel
theorem dX1_shortGuess_13 : decode cX1_shortGuess 13 = .ok (.iload_n 3, 1) := by decide +kernel
theorem dX1_shortGuess_14 : decode cX1_shortGuess 14 = .ok (.invokestatic 68, 3) := by decide +kernel
theorem dX1_shortGuess_17 : decode cX1_shortGuess 17 = .ok (.invokevirtual 148, 3) := by decide +kernel
theorem dX1_shortGuess_20 : decode cX1_shortGuess 20 = .ok (.istore 4, 2) := by decide +kernel
theorem dX1_shortGuess_22 : decode cX1_shortGuess 22 = .ok (.iload 4, 2) := by decide +kernel
theorem dX1_shortGuess_24 : decode cX1_shortGuess 24 = .ok (.iconst (-1), 1) := by decide +kernel
theorem dX1_shortGuess_25 : decode cX1_shortGuess 25 = .ok (.if_icmp .ne 7, 3) := by decide +kernel
theorem dX1_shortGuess_28 : decode cX1_shortGuess 28 = .ok (.iconst (-1), 1) := by decide +kernel
theorem dX1_shortGuess_29 : decode cX1_shortGuess 29 = .ok (.goto 14, 3) := by decide +kernel
theorem dX1_shortGuess_32 : decode cX1_shortGuess 32 = .ok (.aload_n 0, 1) := by decide +kernel
theorem dX1_shortGuess_33 : decode cX1_shortGuess 33 = .ok (.getfield 29, 3) := by decide +kernel
theorem dX1_shortGuess_36 : decode cX1_shortGuess 36 = .ok (.iload 4, 2) := by decide +kernel
theorem dX1_shortGuess_38 : decode cX1_shortGuess 38 = .ok (.sipush 2047, 3) := by decide +kernel
theorem dX1_shortGuess_41 : decode cX1_shortGuess 41 = .ok (.iand, 1) := by decide +kernel
theorem dX1_shortGuess_42 : decode cX1_shortGuess 42 = .ok (.iaload, 1) := by decide +kernel
theorem dX1_shortGuess_43 : decode cX1_shortGuess 43 = .ok (.ireturn, 1) := by decide +kernel
theorem dX1_shortGuess_44 : decode cX1_shortGuess 44 = .ok (.iconst 0, 1) := by decide +kernel
theorem dX1_shortGuess_45 : decode cX1_shortGuess 45 = .ok (.istore 4, 2) := by decide +kernel
theorem dX1_shortGuess_47 : decode cX1_shortGuess 47 = .ok (.iload 4, 2) := by decide +kernel
theorem dX1_shortGuess_49 : decode cX1_shortGuess 49 = .ok (.aload_n 0, 1) := by decide +kernel
theorem dX1_shortGuess_50 : decode cX1_shortGuess 50 = .ok (.getfield 74, 3) := by decide +kernel
theorem dX1_shortGuess_53 : decode cX1_shortGuess 53 = .ok (.if_icmp .ge 26, 3) := by decide +kernel
theorem dX1_shortGuess_56 : decode cX1_shortGuess 56 = .ok (.iload_n 1, 1) := by decide +kernel
theorem dX1_shortGuess_57 : decode cX1_shortGuess 57 = .ok (.iload 4, 2) := by decide +kernel
theorem dX1_shortGuess_59 : decode cX1_shortGuess 59 = .ok (.iushr, 1) := by decide +kernel
theorem dX1_shortGuess_60 : decode cX1_shortGuess 60 = .ok (.iconst 1, 1) := by decide +kernel
theorem dX1_shortGuess_61 : decode cX1_shortGuess 61 = .ok (.iand, 1) := by decide +kernel
theorem dX1_shortGuess_62 : decode cX1_shortGuess 62 = .ok (.ifCond .eq 11, 3) := by decide +kernel
theorem dX1_shortGuess_65 : decode cX1_shortGuess 65 = .ok (.aload_n 0, 1) := by decide +kernel
theorem dX1_shortGuess_66 : decode cX1_shortGuess 66 = .ok (.getfield 11, 3) := by decide +kernel
theorem dX1_shortGuess_69 : decode cX1_shortGuess 69 = .ok (.iload 4, 2) := by decide +kernel
theorem dX1_shortGuess_71 : decode cX1_shortGuess 71 = .ok (.iaload, 1) := by decide +kernel
theorem dX1_shortGuess_72 : decode cX1_shortGuess 72 = .ok (.ireturn, 1) := by decide +kernel
theorem dX1_shortGuess_73 : decode cX1_shortGuess 73 = .ok (.iinc 4 1, 3) := by decide +kernel
theorem dX1_shortGuess_76 : decode cX1_shortGuess 76 = .ok (.goto (-29), 3) := by decide +kernel
theorem dX1_shortGuess_79 : decode cX1_shortGuess 79 = .ok (.iconst (-1), 1) := by decide +kernel
theorem dX1_shortGuess_80 : decode cX1_shortGuess 80 = .ok (.ireturn, 1) := by decide +kernel
theorem dX1_plant_0 : decode cX1_plant 0 = .ok (.aload_n 1, 1) := by decide +kernel
theorem dX1_plant_1 : decode cX1_plant 1 = .ok (.iconst 0, 1) := by decide +kernel
theorem dX1_plant_2 : decode cX1_plant 2 = .ok (.putfield 157, 3) := by decide +kernel
theorem dX1_plant_5 : decode cX1_plant 5 = .ok (.aload_n 0, 1) := by decide +kernel
theorem dX1_plant_6 : decode cX1_plant 6 = .ok (.aload_n 1, 1) := by decide +kernel
theorem dX1_plant_7 : decode cX1_plant 7 = .ok (.aload_n 0, 1) := by decide +kernel
theorem dX1_plant_8 : decode cX1_plant 8 = .ok (.invokevirtual 123, 3) := by decide +kernel
theorem dX1_plant_11 : decode cX1_plant 11 = .ok (.aload_n 0, 1) := by decide +kernel
theorem dX1_plant_12 : decode cX1_plant 12 = .ok (.iload_n 2, 1) := by decide +kernel
theorem dX1_plant_13 : decode cX1_plant 13 = .ok (.invokevirtual 126, 3) := by decide +kernel
theorem dX1_plant_16 : decode cX1_plant 16 = .ok (.iconst (-1), 1) := by decide +kernel
theorem dX1_plant_17 : decode cX1_plant 17 = .ok (.iconst (-1), 1) := by decide +kernel
theorem dX1_plant_18 : decode cX1_plant 18 = .ok (.invokevirtual 162, 3) := by decide +kernel
theorem dX1_plant_21 : decode cX1_plant 21 = .ok (.return_, 1) := by decide +kernel
theorem dX1_grow_0 : decode cX1_grow 0 = .ok (.iload_n 3, 1) := by decide +kernel
theorem dX1_grow_1 : decode cX1_grow 1 = .ok (.iconst 1, 1) := by decide +kernel
theorem dX1_grow_2 : decode cX1_grow 2 = .ok (.if_icmp .lt 12, 3) := by decide +kernel
theorem dX1_grow_5 : decode cX1_grow 5 = .ok (.aload_n 1, 1) := by decide +kernel
theorem dX1_grow_6 : decode cX1_grow 6 = .ok (.getfield 157, 3) := by decide +kernel
theorem dX1_grow_9 : decode cX1_grow 9 = .ok (.bipush 20, 2) := by decide +kernel
theorem dX1_grow_11 : decode cX1_grow 11 = .ok (.if_icmp .lt 4, 3) := by decide +kernel
theorem dX1_grow_14 : decode cX1_grow 14 = .ok (.return_, 1) := by decide +kernel
theorem dX1_grow_15 : decode cX1_grow 15 = .ok (.aload_n 0, 1) := by decide +kernel
theorem dX1_grow_16 : decode cX1_grow 16 = .ok (.iload_n 2, 1) := by decide +kernel
theorem dX1_grow_17 : decode cX1_grow 17 = .ok (.iload_n 3, 1) := by decide +kernel
theorem dX1_grow_18 : decode cX1_grow 18 = .ok (.invokevirtual 132, 3) := by decide +kernel
theorem dX1_grow_21 : decode cX1_grow 21 = .ok (.istore 6, 2) := by decide +kernel
theorem dX1_grow_23 : decode cX1_grow 23 = .ok (.iload 6, 2) := by decide +kernel
theorem dX1_grow_25 : decode cX1_grow 25 = .ok (.iconst (-1), 1) := by decide +kernel
theorem dX1_grow_26 : decode cX1_grow 26 = .ok (.if_icmp .ne 4, 3) := by decide +kernel
theorem dX1_grow_29 : decode cX1_grow 29 = .ok (.return_, 1) := by decide +kernel
theorem dX1_grow_30 : decode cX1_grow 30 = .ok (.aload_n 1, 1) := by decide +kernel
theorem dX1_grow_31 : decode cX1_grow 31 = .ok (.getfield 157, 3) := by decide +kernel
theorem dX1_grow_34 : decode cX1_grow 34 = .ok (.istore 7, 2) := by decide +kernel
theorem dX1_grow_36 : decode cX1_grow 36 = .ok (.aload_n 1, 1) := by decide +kernel
theorem dX1_grow_37 : decode cX1_grow 37 = .ok (.iload 6, 2) := by decide +kernel
theorem dX1_grow_39 : decode cX1_grow 39 = .ok (.iload 4, 2) := by decide +kernel
theorem dX1_grow_41 : decode cX1_grow 41 = .ok (.iload 5, 2) := by decide +kernel
theorem dX1_grow_43 : decode cX1_grow 43 = .ok (.iload_n 2, 1) := by decide +kernel
theorem dX1_grow_44 : decode cX1_grow 44 = .ok (.invokestatic 143, 3) := by decide +kernel
theorem dX1_grow_47 : decode cX1_grow 47 = .ok (.invokevirtual 166, 3) := by decide +kernel
theorem dX1_grow_50 : decode cX1_grow 50 = .ok (.aload_n 0, 1) := by decide +kernel
theorem dX1_grow_51 : decode cX1_grow 51 = .ok (.iload 6, 2) := by decide +kernel
theorem dX1_grow_53 : decode cX1_grow 53 = .ok (.iload_n 2, 1) := by decide +kernel
theorem dX1_grow_54 : decode cX1_grow 54 = .ok (.iconst (-1), 1) := by decide +kernel
theorem dX1_grow_55 : decode cX1_grow 55 = .ok (.invokevirtual 170, 3) := by decide +kernel
theorem dX1_grow_58 : decode cX1_grow 58 = .ok (.istore 8, 2) := by decide +kernel
theorem dX1_grow_60 : decode cX1_grow 60 = .ok (.iconst 0, 1) := by decide +kernel
theorem dX1_grow_61 : decode cX1_grow 61 = .ok (.istore 9, 2) := by decide +kernel
theorem dX1_grow_63 : decode cX1_grow 63 = .ok (.iload 9, 2) := by decide +kernel
theorem dX1_grow_65 : decode cX1_grow 65 = .ok (.bipush 10, 2) := by decide +kernel
theorem dX1_grow_67 : decode cX1_grow 67 = .ok (.if_icmp .ge 47, 3) := by decide +kernel
theorem dX1_grow_70 : decode cX1_grow 70 = .ok (.iload 8, 2) := by decide +kernel
theorem dX1_grow_72 : decode cX1_grow 72 = .ok (.iconst (-1), 1) := by decide +kernel
theorem dX1_grow_73 : decode cX1_grow 73 = .ok (.if_icmp .eq 41, 3) := by decide +kernel
theorem dX1_grow_76 : decode cX1_grow 76 = .ok (.aload_n 0, 1) := by decide +kernel
theorem dX1_grow_77 : decode cX1_grow 77 = .ok (.aload_n 1, 1) := by decide +kernel
theorem dX1_grow_78 : decode cX1_grow 78 = .ok (.aload_n 0, 1) := by decide +kernel
theorem dX1_grow_79 : decode cX1_grow 79 = .ok (.iload 6, 2) := by decide +kernel
theorem dX1_grow_81 : decode cX1_grow 81 = .ok (.iload_n 2, 1) := by decide +kernel
theorem dX1_grow_82 : decode cX1_grow 82 = .ok (.iload 8, 2) := by decide +kernel
theorem dX1_grow_84 : decode cX1_grow 84 = .ok (.invokevirtual 174, 3) := by decide +kernel
theorem dX1_grow_87 : decode cX1_grow 87 = .ok (.iload_n 3, 1) := by decide +kernel
theorem dX1_grow_88 : decode cX1_grow 88 = .ok (.iconst 1, 1) := by decide +kernel
theorem dX1_grow_89 : decode cX1_grow 89 = .ok (.isub, 1) := by decide +kernel
theorem dX1_grow_90 : decode cX1_grow 90 = .ok (.iload 7, 2) := by decide +kernel
theorem dX1_grow_92 : decode cX1_grow 92 = .ok (.iload 8, 2) := by decide +kernel
theorem dX1_grow_94 : decode cX1_grow 94 = .ok (.invokevirtual 162, 3) := by decide +kernel
theorem dX1_grow_97 : decode cX1_grow 97 = .ok (.aload_n 0, 1) := by decide +kernel
theorem dX1_grow_98 : decode cX1_grow 98 = .ok (.iload 6, 2) := by decide +kernel
theorem dX1_grow_100 : decode cX1_grow 100 = .ok (.iload_n 2, 1) := by decide +kernel
theorem dX1_grow_101 : decode cX1_grow 101 = .ok (.iload 8, 2) := by decide +kernel
theorem dX1_grow_103 : decode cX1_grow 103 = .ok (.invokevirtual 170, 3) := by decide +kernel
theorem dX1_grow_106 : decode cX1_grow 106 = .ok (.istore 8, 2) := by decide +kernel
theorem dX1_grow_108 : decode cX1_grow 108 = .ok (.iinc 9 1, 3) := by decide +kernel
theorem dX1_grow_111 : decode cX1_grow 111 = .ok (.goto (-48), 3) := by decide +kernel
theorem dX1_grow_114 : decode cX1_grow 114 = .ok (.return_, 1) := by decide +kernel
theorem dX1_nextAnswer_0 : decode cX1_nextAnswer 0 = .ok (.aload_n 0, 1) := by decide +kernel
theorem dX1_nextAnswer_1 : decode cX1_nextAnswer 1 = .ok (.getfield 21, 3) := by decide +kernel
theorem dX1_nextAnswer_4 : decode cX1_nextAnswer 4 = .ok (.invokevirtual 114, 3) := by decide +kernel
theorem dX1_nextAnswer_7 : decode cX1_nextAnswer 7 = .ok (.istore 4, 2) := by decide +kernel
theorem dX1_nextAnswer_9 : decode cX1_nextAnswer 9 = .ok (.iconst 0, 1) := by decide +kernel
theorem dX1_nextAnswer_10 : decode cX1_nextAnswer 10 = .ok (.istore 5, 2) := by decide +kernel
theorem dX1_nextAnswer_12 : decode cX1_nextAnswer 12 = .ok (.iload 5, 2) := by decide +kernel
theorem dX1_nextAnswer_14 : decode cX1_nextAnswer 14 = .ok (.aload_n 0, 1) := by decide +kernel
theorem dX1_nextAnswer_15 : decode cX1_nextAnswer 15 = .ok (.getfield 74, 3) := by decide +kernel
theorem dX1_nextAnswer_18 : decode cX1_nextAnswer 18 = .ok (.if_icmp .ge 52, 3) := by decide +kernel
theorem dX1_nextAnswer_21 : decode cX1_nextAnswer 21 = .ok (.iload_n 2, 1) := by decide +kernel
theorem dX1_nextAnswer_22 : decode cX1_nextAnswer 22 = .ok (.iload 5, 2) := by decide +kernel
theorem dX1_nextAnswer_24 : decode cX1_nextAnswer 24 = .ok (.iushr, 1) := by decide +kernel
theorem dX1_nextAnswer_25 : decode cX1_nextAnswer 25 = .ok (.iconst 1, 1) := by decide +kernel
theorem dX1_nextAnswer_26 : decode cX1_nextAnswer 26 = .ok (.iand, 1) := by decide +kernel
theorem dX1_nextAnswer_27 : decode cX1_nextAnswer 27 = .ok (.ifCond .eq 37, 3) := by decide +kernel
theorem dX1_nextAnswer_30 : decode cX1_nextAnswer 30 = .ok (.aload_n 0, 1) := by decide +kernel
theorem dX1_nextAnswer_31 : decode cX1_nextAnswer 31 = .ok (.getfield 21, 3) := by decide +kernel
theorem dX1_nextAnswer_34 : decode cX1_nextAnswer 34 = .ok (.iload_n 1, 1) := by decide +kernel
theorem dX1_nextAnswer_35 : decode cX1_nextAnswer 35 = .ok (.aload_n 0, 1) := by decide +kernel
theorem dX1_nextAnswer_36 : decode cX1_nextAnswer 36 = .ok (.getfield 11, 3) := by decide +kernel
theorem dX1_nextAnswer_39 : decode cX1_nextAnswer 39 = .ok (.iload 5, 2) := by decide +kernel
theorem dX1_nextAnswer_41 : decode cX1_nextAnswer 41 = .ok (.iaload, 1) := by decide +kernel
theorem dX1_nextAnswer_42 : decode cX1_nextAnswer 42 = .ok (.invokevirtual 118, 3) := by decide +kernel
theorem dX1_nextAnswer_45 : decode cX1_nextAnswer 45 = .ok (.istore 6, 2) := by decide +kernel
theorem dX1_nextAnswer_47 : decode cX1_nextAnswer 47 = .ok (.iload 6, 2) := by decide +kernel
theorem dX1_nextAnswer_49 : decode cX1_nextAnswer 49 = .ok (.iload_n 3, 1) := by decide +kernel
theorem dX1_nextAnswer_50 : decode cX1_nextAnswer 50 = .ok (.if_icmp .le 14, 3) := by decide +kernel
theorem dX1_nextAnswer_53 : decode cX1_nextAnswer 53 = .ok (.iload 6, 2) := by decide +kernel
theorem dX1_nextAnswer_55 : decode cX1_nextAnswer 55 = .ok (.iload 4, 2) := by decide +kernel
theorem dX1_nextAnswer_57 : decode cX1_nextAnswer 57 = .ok (.if_icmp .ge 7, 3) := by decide +kernel
theorem dX1_nextAnswer_60 : decode cX1_nextAnswer 60 = .ok (.iload 6, 2) := by decide +kernel
theorem dX1_nextAnswer_62 : decode cX1_nextAnswer 62 = .ok (.istore 4, 2) := by decide +kernel
theorem dX1_nextAnswer_64 : decode cX1_nextAnswer 64 = .ok (.iinc 5 1, 3) := by decide +kernel
theorem dX1_nextAnswer_67 : decode cX1_nextAnswer 67 = .ok (.goto (-55), 3) := by decide +kernel
theorem dX1_nextAnswer_70 : decode cX1_nextAnswer 70 = .ok (.iload 4, 2) := by decide +kernel
theorem dX1_nextAnswer_72 : decode cX1_nextAnswer 72 = .ok (.aload_n 0, 1) := by decide +kernel
theorem dX1_nextAnswer_73 : decode cX1_nextAnswer 73 = .ok (.getfield 21, 3) := by decide +kernel
theorem dX1_nextAnswer_76 : decode cX1_nextAnswer 76 = .ok (.invokevirtual 114, 3) := by decide +kernel
theorem dX1_nextAnswer_79 : decode cX1_nextAnswer 79 = .ok (.if_icmp .ne 7, 3) := by decide +kernel
theorem dX1_nextAnswer_82 : decode cX1_nextAnswer 82 = .ok (.iconst (-1), 1) := by decide +kernel
theorem dX1_nextAnswer_83 : decode cX1_nextAnswer 83 = .ok (.goto 5, 3) := by decide +kernel
theorem dX1_nextAnswer_86 : decode cX1_nextAnswer 86 = .ok (.iload 4, 2) := by decide +kernel
theorem dX1_nextAnswer_88 : decode cX1_nextAnswer 88 = .ok (.ireturn, 1) := by decide +kernel
theorem dX1_withAnswer_0 : decode cX1_withAnswer 0 = .ok (.iconst 0, 1) := by decide +kernel
theorem dX1_withAnswer_1 : decode cX1_withAnswer 1 = .ok (.istore 4, 2) := by decide +kernel
theorem dX1_withAnswer_3 : decode cX1_withAnswer 3 = .ok (.iconst 0, 1) := by decide +kernel
theorem dX1_withAnswer_4 : decode cX1_withAnswer 4 = .ok (.istore 5, 2) := by decide +kernel
theorem dX1_withAnswer_6 : decode cX1_withAnswer 6 = .ok (.iload 5, 2) := by decide +kernel
theorem dX1_withAnswer_8 : decode cX1_withAnswer 8 = .ok (.aload_n 0, 1) := by decide +kernel
theorem dX1_withAnswer_9 : decode cX1_withAnswer 9 = .ok (.getfield 74, 3) := by decide +kernel
theorem dX1_withAnswer_12 : decode cX1_withAnswer 12 = .ok (.if_icmp .ge 46, 3) := by decide +kernel
theorem dX1_withAnswer_15 : decode cX1_withAnswer 15 = .ok (.iload_n 2, 1) := by decide +kernel
theorem dX1_withAnswer_16 : decode cX1_withAnswer 16 = .ok (.iload 5, 2) := by decide +kernel
theorem dX1_withAnswer_18 : decode cX1_withAnswer 18 = .ok (.iushr, 1) := by decide +kernel
theorem dX1_withAnswer_19 : decode cX1_withAnswer 19 = .ok (.iconst 1, 1) := by decide +kernel
theorem dX1_withAnswer_20 : decode cX1_withAnswer 20 = .ok (.iand, 1) := by decide +kernel
theorem dX1_withAnswer_21 : decode cX1_withAnswer 21 = .ok (.ifCond .eq 31, 3) := by decide +kernel
theorem dX1_withAnswer_24 : decode cX1_withAnswer 24 = .ok (.aload_n 0, 1) := by decide +kernel
theorem dX1_withAnswer_25 : decode cX1_withAnswer 25 = .ok (.getfield 21, 3) := by decide +kernel
theorem dX1_withAnswer_28 : decode cX1_withAnswer 28 = .ok (.iload_n 1, 1) := by decide +kernel
theorem dX1_withAnswer_29 : decode cX1_withAnswer 29 = .ok (.aload_n 0, 1) := by decide +kernel
theorem dX1_withAnswer_30 : decode cX1_withAnswer 30 = .ok (.getfield 11, 3) := by decide +kernel
theorem dX1_withAnswer_33 : decode cX1_withAnswer 33 = .ok (.iload 5, 2) := by decide +kernel
theorem dX1_withAnswer_35 : decode cX1_withAnswer 35 = .ok (.iaload, 1) := by decide +kernel
theorem dX1_withAnswer_36 : decode cX1_withAnswer 36 = .ok (.invokevirtual 118, 3) := by decide +kernel
theorem dX1_withAnswer_39 : decode cX1_withAnswer 39 = .ok (.iload_n 3, 1) := by decide +kernel
theorem dX1_withAnswer_40 : decode cX1_withAnswer 40 = .ok (.if_icmp .ne 12, 3) := by decide +kernel
theorem dX1_withAnswer_43 : decode cX1_withAnswer 43 = .ok (.iload 4, 2) := by decide +kernel
theorem dX1_withAnswer_45 : decode cX1_withAnswer 45 = .ok (.iconst 1, 1) := by decide +kernel
theorem dX1_withAnswer_46 : decode cX1_withAnswer 46 = .ok (.iload 5, 2) := by decide +kernel
theorem dX1_withAnswer_48 : decode cX1_withAnswer 48 = .ok (.ishl, 1) := by decide +kernel
theorem dX1_withAnswer_49 : decode cX1_withAnswer 49 = .ok (.ior, 1) := by decide +kernel
theorem dX1_withAnswer_50 : decode cX1_withAnswer 50 = .ok (.istore 4, 2) := by decide +kernel
theorem dX1_withAnswer_52 : decode cX1_withAnswer 52 = .ok (.iinc 5 1, 3) := by decide +kernel
theorem dX1_withAnswer_55 : decode cX1_withAnswer 55 = .ok (.goto (-49), 3) := by decide +kernel
theorem dX1_withAnswer_58 : decode cX1_withAnswer 58 = .ok (.iload 4, 2) := by decide +kernel
theorem dX1_withAnswer_60 : decode cX1_withAnswer 60 = .ok (.ireturn, 1) := by decide +kernel
theorem dX2_init_0 : decode cX2_init 0 = .ok (.aload_n 0, 1) := by decide +kernel
theorem dX2_init_1 : decode cX2_init 1 = .ok (.invokespecial 3, 3) := by decide +kernel
theorem dX2_init_4 : decode cX2_init 4 = .ok (.aload_n 0, 1) := by decide +kernel
theorem dX2_init_5 : decode cX2_init 5 = .ok (.iconst 5, 1) := by decide +kernel
theorem dX2_init_6 : decode cX2_init 6 = .ok (.newarray .int, 2) := by decide +kernel
theorem dX2_init_8 : decode cX2_init 8 = .ok (.putfield 9, 3) := by decide +kernel
theorem dX2_init_11 : decode cX2_init 11 = .ok (.return_, 1) := by decide +kernel
theorem dX2_fillWith_0 : decode cX2_fillWith 0 = .ok (.aload_n 0, 1) := by decide +kernel
theorem dX2_fillWith_1 : decode cX2_fillWith 1 = .ok (.getfield 9, 3) := by decide +kernel
theorem dX2_fillWith_4 : decode cX2_fillWith 4 = .ok (.iload_n 1, 1) := by decide +kernel
theorem dX2_fillWith_5 : decode cX2_fillWith 5 = .ok (.invokestatic 15, 3) := by decide +kernel
theorem dX2_fillWith_8 : decode cX2_fillWith 8 = .ok (.return_, 1) := by decide +kernel
theorem dX2_measure_0 : decode cX2_measure 0 = .ok (.iconst 1, 1) := by decide +kernel
theorem dX2_measure_1 : decode cX2_measure 1 = .ok (.iload_n 1, 1) := by decide +kernel
theorem dX2_measure_2 : decode cX2_measure 2 = .ok (.ishl, 1) := by decide +kernel
theorem dX2_measure_3 : decode cX2_measure 3 = .ok (.iconst 1, 1) := by decide +kernel
theorem dX2_measure_4 : decode cX2_measure 4 = .ok (.isub, 1) := by decide +kernel
theorem dX2_measure_5 : decode cX2_measure 5 = .ok (.istore_n 3, 1) := by decide +kernel
theorem dX2_measure_6 : decode cX2_measure 6 = .ok (.iconst 0, 1) := by decide +kernel
theorem dX2_measure_7 : decode cX2_measure 7 = .ok (.istore 4, 2) := by decide +kernel
theorem dX2_measure_9 : decode cX2_measure 9 = .ok (.iconst 0, 1) := by decide +kernel
theorem dX2_measure_10 : decode cX2_measure 10 = .ok (.istore 5, 2) := by decide +kernel
theorem dX2_measure_12 : decode cX2_measure 12 = .ok (.iconst 0, 1) := by decide +kernel
theorem dX2_measure_13 : decode cX2_measure 13 = .ok (.istore 6, 2) := by decide +kernel
theorem dX2_measure_15 : decode cX2_measure 15 = .ok (.iload 6, 2) := by decide +kernel
theorem dX2_measure_17 : decode cX2_measure 17 = .ok (.iload_n 1, 1) := by decide +kernel
theorem dX2_measure_18 : decode cX2_measure 18 = .ok (.if_icmp .ge 63, 3) := by decide +kernel
theorem dX2_measure_21 : decode cX2_measure 21 = .ok (.aload_n 0, 1) := by decide +kernel
theorem dX2_measure_22 : decode cX2_measure 22 = .ok (.getfield 9, 3) := by decide +kernel
theorem dX2_measure_25 : decode cX2_measure 25 = .ok (.iload 6, 2) := by decide +kernel
theorem dX2_measure_27 : decode cX2_measure 27 = .ok (.iaload, 1) := by decide +kernel
theorem dX2_measure_28 : decode cX2_measure 28 = .ok (.istore 7, 2) := by decide +kernel
theorem dX2_measure_30 : decode cX2_measure 30 = .ok (.iload 7, 2) := by decide +kernel
theorem dX2_measure_32 : decode cX2_measure 32 = .ok (.iconst (-1), 1) := by decide +kernel
theorem dX2_measure_33 : decode cX2_measure 33 = .ok (.if_icmp .eq 42, 3) := by decide +kernel
theorem dX2_measure_36 : decode cX2_measure 36 = .ok (.iload 7, 2) := by decide +kernel
theorem dX2_measure_38 : decode cX2_measure 38 = .ok (.iload_n 1, 1) := by decide +kernel
theorem dX2_measure_39 : decode cX2_measure 39 = .ok (.imul, 1) := by decide +kernel
theorem dX2_measure_40 : decode cX2_measure 40 = .ok (.istore 8, 2) := by decide +kernel
theorem dX2_measure_42 : decode cX2_measure 42 = .ok (.iload 4, 2) := by decide +kernel
theorem dX2_measure_44 : decode cX2_measure 44 = .ok (.iconst 1, 1) := by decide +kernel
theorem dX2_measure_45 : decode cX2_measure 45 = .ok (.iload 6, 2) := by decide +kernel
theorem dX2_measure_47 : decode cX2_measure 47 = .ok (.iload_n 2, 1) := by decide +kernel
theorem dX2_measure_48 : decode cX2_measure 48 = .ok (.imul, 1) := by decide +kernel
theorem dX2_measure_49 : decode cX2_measure 49 = .ok (.iload 7, 2) := by decide +kernel
theorem dX2_measure_51 : decode cX2_measure 51 = .ok (.iadd, 1) := by decide +kernel
theorem dX2_measure_52 : decode cX2_measure 52 = .ok (.ishl, 1) := by decide +kernel
theorem dX2_measure_53 : decode cX2_measure 53 = .ok (.ior, 1) := by decide +kernel
theorem dX2_measure_54 : decode cX2_measure 54 = .ok (.istore 4, 2) := by decide +kernel
theorem dX2_measure_56 : decode cX2_measure 56 = .ok (.iload 5, 2) := by decide +kernel
theorem dX2_measure_58 : decode cX2_measure 58 = .ok (.iload 5, 2) := by decide +kernel
theorem dX2_measure_60 : decode cX2_measure 60 = .ok (.iload_n 3, 1) := by decide +kernel
theorem dX2_measure_61 : decode cX2_measure 61 = .ok (.iload 8, 2) := by decide +kernel
theorem dX2_measure_63 : decode cX2_measure 63 = .ok (.ishl, 1) := by decide +kernel
theorem dX2_measure_64 : decode cX2_measure 64 = .ok (.iand, 1) := by decide +kernel
theorem dX2_measure_65 : decode cX2_measure 65 = .ok (.iconst 1, 1) := by decide +kernel
theorem dX2_measure_66 : decode cX2_measure 66 = .ok (.ishl, 1) := by decide +kernel
theorem dX2_measure_67 : decode cX2_measure 67 = .ok (.iconst 1, 1) := by decide +kernel
theorem dX2_measure_68 : decode cX2_measure 68 = .ok (.iload 8, 2) := by decide +kernel
theorem dX2_measure_70 : decode cX2_measure 70 = .ok (.ishl, 1) := by decide +kernel
theorem dX2_measure_71 : decode cX2_measure 71 = .ok (.ior, 1) := by decide +kernel
theorem dX2_measure_72 : decode cX2_measure 72 = .ok (.ior, 1) := by decide +kernel
theorem dX2_measure_73 : decode cX2_measure 73 = .ok (.istore 5, 2) := by decide +kernel
theorem dX2_measure_75 : decode cX2_measure 75 = .ok (.iinc 6 1, 3) := by decide +kernel
theorem dX2_measure_78 : decode cX2_measure 78 = .ok (.goto (-63), 3) := by decide +kernel
theorem dX2_measure_81 : decode cX2_measure 81 = .ok (.aload_n 0, 1) := by decide +kernel
theorem dX2_measure_82 : decode cX2_measure 82 = .ok (.iload 4, 2) := by decide +kernel
theorem dX2_measure_84 : decode cX2_measure 84 = .ok (.putfield 21, 3) := by decide +kernel
theorem dX2_measure_87 : decode cX2_measure 87 = .ok (.aload_n 0, 1) := by decide +kernel
theorem dX2_measure_88 : decode cX2_measure 88 = .ok (.iload 5, 2) := by decide +kernel
theorem dX2_measure_90 : decode cX2_measure 90 = .ok (.putfield 25, 3) := by decide +kernel
theorem dX2_measure_93 : decode cX2_measure 93 = .ok (.return_, 1) := by decide +kernel
theorem dX2_packed_0 : decode cX2_packed 0 = .ok (.iconst 0, 1) := by decide +kernel
theorem dX2_packed_1 : decode cX2_packed 1 = .ok (.istore_n 2, 1) := by decide +kernel
theorem dX2_packed_2 : decode cX2_packed 2 = .ok (.iconst 0, 1) := by decide +kernel
theorem dX2_packed_3 : decode cX2_packed 3 = .ok (.istore_n 3, 1) := by decide +kernel
theorem dX2_packed_4 : decode cX2_packed 4 = .ok (.iload_n 3, 1) := by decide +kernel
theorem dX2_packed_5 : decode cX2_packed 5 = .ok (.iload_n 1, 1) := by decide +kernel
theorem dX2_packed_6 : decode cX2_packed 6 = .ok (.if_icmp .ge 22, 3) := by decide +kernel
theorem dX2_packed_9 : decode cX2_packed 9 = .ok (.iload_n 2, 1) := by decide +kernel
theorem dX2_packed_10 : decode cX2_packed 10 = .ok (.aload_n 0, 1) := by decide +kernel
theorem dX2_packed_11 : decode cX2_packed 11 = .ok (.getfield 9, 3) := by decide +kernel
theorem dX2_packed_14 : decode cX2_packed 14 = .ok (.iload_n 3, 1) := by decide +kernel
theorem dX2_packed_15 : decode cX2_packed 15 = .ok (.iaload, 1) := by decide +kernel
theorem dX2_packed_16 : decode cX2_packed 16 = .ok (.iconst 3, 1) := by decide +kernel
theorem dX2_packed_17 : decode cX2_packed 17 = .ok (.iload_n 3, 1) := by decide +kernel
theorem dX2_packed_18 : decode cX2_packed 18 = .ok (.imul, 1) := by decide +kernel
theorem dX2_packed_19 : decode cX2_packed 19 = .ok (.ishl, 1) := by decide +kernel
theorem dX2_packed_20 : decode cX2_packed 20 = .ok (.ior, 1) := by decide +kernel
theorem dX2_packed_21 : decode cX2_packed 21 = .ok (.istore_n 2, 1) := by decide +kernel
theorem dX2_packed_22 : decode cX2_packed 22 = .ok (.iinc 3 1, 3) := by decide +kernel
theorem dX2_packed_25 : decode cX2_packed 25 = .ok (.goto (-21), 3) := by decide +kernel
theorem dX2_packed_28 : decode cX2_packed 28 = .ok (.iload_n 2, 1) := by decide +kernel
theorem dX2_packed_29 : decode cX2_packed 29 = .ok (.ireturn, 1) := by decide +kernel
theorem dX2_stepOn_0 : decode cX2_stepOn 0 = .ok (.iload_n 1, 1) := by decide +kernel
theorem dX2_stepOn_1 : decode cX2_stepOn 1 = .ok (.iconst 1, 1) := by decide +kernel
theorem dX2_stepOn_2 : decode cX2_stepOn 2 = .ok (.isub, 1) := by decide +kernel
theorem dX2_stepOn_3 : decode cX2_stepOn 3 = .ok (.istore_n 3, 1) := by decide +kernel
theorem dX2_stepOn_4 : decode cX2_stepOn 4 = .ok (.iload_n 3, 1) := by decide +kernel
theorem dX2_stepOn_5 : decode cX2_stepOn 5 = .ok (.ifCond .lt 37, 3) := by decide +kernel
theorem dX2_stepOn_8 : decode cX2_stepOn 8 = .ok (.aload_n 0, 1) := by decide +kernel
theorem dX2_stepOn_9 : decode cX2_stepOn 9 = .ok (.getfield 9, 3) := by decide +kernel
theorem dX2_stepOn_12 : decode cX2_stepOn 12 = .ok (.iload_n 3, 1) := by decide +kernel
theorem dX2_stepOn_13 : decode cX2_stepOn 13 = .ok (.dup2, 1) := by decide +kernel
theorem dX2_stepOn_14 : decode cX2_stepOn 14 = .ok (.iaload, 1) := by decide +kernel
theorem dX2_stepOn_15 : decode cX2_stepOn 15 = .ok (.iconst 1, 1) := by decide +kernel
theorem dX2_stepOn_16 : decode cX2_stepOn 16 = .ok (.iadd, 1) := by decide +kernel
theorem dX2_stepOn_17 : decode cX2_stepOn 17 = .ok (.iastore, 1) := by decide +kernel
theorem dX2_stepOn_18 : decode cX2_stepOn 18 = .ok (.aload_n 0, 1) := by decide +kernel
theorem dX2_stepOn_19 : decode cX2_stepOn 19 = .ok (.getfield 9, 3) := by decide +kernel
theorem dX2_stepOn_22 : decode cX2_stepOn 22 = .ok (.iload_n 3, 1) := by decide +kernel
theorem dX2_stepOn_23 : decode cX2_stepOn 23 = .ok (.iaload, 1) := by decide +kernel
theorem dX2_stepOn_24 : decode cX2_stepOn 24 = .ok (.iload_n 2, 1) := by decide +kernel
theorem dX2_stepOn_25 : decode cX2_stepOn 25 = .ok (.if_icmp .ge 4, 3) := by decide +kernel
theorem dX2_stepOn_28 : decode cX2_stepOn 28 = .ok (.return_, 1) := by decide +kernel
theorem dX2_stepOn_29 : decode cX2_stepOn 29 = .ok (.aload_n 0, 1) := by decide +kernel
theorem dX2_stepOn_30 : decode cX2_stepOn 30 = .ok (.getfield 9, 3) := by decide +kernel
theorem dX2_stepOn_33 : decode cX2_stepOn 33 = .ok (.iload_n 3, 1) := by decide +kernel
theorem dX2_stepOn_34 : decode cX2_stepOn 34 = .ok (.iconst 0, 1) := by decide +kernel
theorem dX2_stepOn_35 : decode cX2_stepOn 35 = .ok (.iastore, 1) := by decide +kernel
theorem dX2_stepOn_36 : decode cX2_stepOn 36 = .ok (.iinc 3 (-1), 3) := by decide +kernel
theorem dX2_stepOn_39 : decode cX2_stepOn 39 = .ok (.goto (-35), 3) := by decide +kernel
theorem dX2_stepOn_42 : decode cX2_stepOn 42 = .ok (.return_, 1) := by decide +kernel
theorem dX3_init_0 : decode cX3_init 0 = .ok (.aload_n 0, 1) := by decide +kernel
theorem dX3_init_1 : decode cX3_init 1 = .ok (.invokespecial 3, 3) := by decide +kernel
theorem dX3_init_4 : decode cX3_init 4 = .ok (.aload_n 0, 1) := by decide +kernel
theorem dX3_init_5 : decode cX3_init 5 = .ok (.bipush 51, 2) := by decide +kernel
theorem dX3_init_7 : decode cX3_init 7 = .ok (.newarray .int, 2) := by decide +kernel
theorem dX3_init_9 : decode cX3_init 9 = .ok (.putfield 9, 3) := by decide +kernel
theorem dX3_init_12 : decode cX3_init 12 = .ok (.return_, 1) := by decide +kernel
theorem dX3_divide_0 : decode cX3_divide 0 = .ok (.aload_n 0, 1) := by decide +kernel
theorem dX3_divide_1 : decode cX3_divide 1 = .ok (.getfield 9, 3) := by decide +kernel
theorem dX3_divide_4 : decode cX3_divide 4 = .ok (.iconst 0, 1) := by decide +kernel
theorem dX3_divide_5 : decode cX3_divide 5 = .ok (.invokestatic 15, 3) := by decide +kernel
theorem dX3_divide_8 : decode cX3_divide 8 = .ok (.aload_n 0, 1) := by decide +kernel
theorem dX3_divide_9 : decode cX3_divide 9 = .ok (.iconst 0, 1) := by decide +kernel
theorem dX3_divide_10 : decode cX3_divide 10 = .ok (.putfield 21, 3) := by decide +kernel
theorem dX3_divide_13 : decode cX3_divide 13 = .ok (.aload_n 0, 1) := by decide +kernel
theorem dX3_divide_14 : decode cX3_divide 14 = .ok (.iconst 0, 1) := by decide +kernel
theorem dX3_divide_15 : decode cX3_divide 15 = .ok (.putfield 25, 3) := by decide +kernel
theorem dX3_divide_18 : decode cX3_divide 18 = .ok (.iconst 0, 1) := by decide +kernel
theorem dX3_divide_19 : decode cX3_divide 19 = .ok (.istore 4, 2) := by decide +kernel
theorem dX3_divide_21 : decode cX3_divide 21 = .ok (.iload 4, 2) := by decide +kernel
theorem dX3_divide_23 : decode cX3_divide 23 = .ok (.aload_n 1, 1) := by decide +kernel
theorem dX3_divide_24 : decode cX3_divide 24 = .ok (.getfield 28, 3) := by decide +kernel
theorem dX3_divide_27 : decode cX3_divide 27 = .ok (.if_icmp .ge 84, 3) := by decide +kernel
theorem dX3_divide_30 : decode cX3_divide 30 = .ok (.aload_n 1, 1) := by decide +kernel
theorem dX3_divide_31 : decode cX3_divide 31 = .ok (.getfield 33, 3) := by decide +kernel
theorem dX3_divide_34 : decode cX3_divide 34 = .ok (.iload_n 2, 1) := by decide +kernel
theorem dX3_divide_35 : decode cX3_divide 35 = .ok (.iload_n 3, 1) := by decide +kernel
theorem dX3_divide_36 : decode cX3_divide 36 = .ok (.aload_n 1, 1) := by decide +kernel
theorem dX3_divide_37 : decode cX3_divide 37 = .ok (.getfield 37, 3) := by decide +kernel
theorem dX3_divide_40 : decode cX3_divide 40 = .ok (.iload 4, 2) := by decide +kernel
theorem dX3_divide_42 : decode cX3_divide 42 = .ok (.iaload, 1) := by decide +kernel
theorem dX3_divide_43 : decode cX3_divide 43 = .ok (.invokevirtual 40, 3) := by decide +kernel
theorem dX3_divide_46 : decode cX3_divide 46 = .ok (.istore 5, 2) := by decide +kernel
theorem dX3_divide_48 : decode cX3_divide 48 = .ok (.aload_n 0, 1) := by decide +kernel
theorem dX3_divide_49 : decode cX3_divide 49 = .ok (.getfield 9, 3) := by decide +kernel
theorem dX3_divide_52 : decode cX3_divide 52 = .ok (.iload 5, 2) := by decide +kernel
theorem dX3_divide_54 : decode cX3_divide 54 = .ok (.dup2, 1) := by decide +kernel
theorem dX3_divide_55 : decode cX3_divide 55 = .ok (.iaload, 1) := by decide +kernel
theorem dX3_divide_56 : decode cX3_divide 56 = .ok (.iconst 1, 1) := by decide +kernel
theorem dX3_divide_57 : decode cX3_divide 57 = .ok (.iadd, 1) := by decide +kernel
theorem dX3_divide_58 : decode cX3_divide 58 = .ok (.iastore, 1) := by decide +kernel
theorem dX3_divide_59 : decode cX3_divide 59 = .ok (.aload_n 0, 1) := by decide +kernel
theorem dX3_divide_60 : decode cX3_divide 60 = .ok (.getfield 9, 3) := by decide +kernel
theorem dX3_divide_63 : decode cX3_divide 63 = .ok (.iload 5, 2) := by decide +kernel
theorem dX3_divide_65 : decode cX3_divide 65 = .ok (.iaload, 1) := by decide +kernel
theorem dX3_divide_66 : decode cX3_divide 66 = .ok (.iconst 1, 1) := by decide +kernel
theorem dX3_divide_67 : decode cX3_divide 67 = .ok (.if_icmp .ne 13, 3) := by decide +kernel
theorem dX3_divide_70 : decode cX3_divide 70 = .ok (.aload_n 0, 1) := by decide +kernel
theorem dX3_divide_71 : decode cX3_divide 71 = .ok (.dup, 1) := by decide +kernel
theorem dX3_divide_72 : decode cX3_divide 72 = .ok (.getfield 21, 3) := by decide +kernel
theorem dX3_divide_75 : decode cX3_divide 75 = .ok (.iconst 1, 1) := by decide +kernel
theorem dX3_divide_76 : decode cX3_divide 76 = .ok (.iadd, 1) := by decide +kernel
theorem dX3_divide_77 : decode cX3_divide 77 = .ok (.putfield 21, 3) := by decide +kernel
theorem dX3_divide_80 : decode cX3_divide 80 = .ok (.aload_n 0, 1) := by decide +kernel
theorem dX3_divide_81 : decode cX3_divide 81 = .ok (.getfield 9, 3) := by decide +kernel
theorem dX3_divide_84 : decode cX3_divide 84 = .ok (.iload 5, 2) := by decide +kernel
theorem dX3_divide_86 : decode cX3_divide 86 = .ok (.iaload, 1) := by decide +kernel
theorem dX3_divide_87 : decode cX3_divide 87 = .ok (.aload_n 0, 1) := by decide +kernel
theorem dX3_divide_88 : decode cX3_divide 88 = .ok (.getfield 25, 3) := by decide +kernel
theorem dX3_divide_91 : decode cX3_divide 91 = .ok (.if_icmp .le 14, 3) := by decide +kernel
theorem dX3_divide_94 : decode cX3_divide 94 = .ok (.aload_n 0, 1) := by decide +kernel
theorem dX3_divide_95 : decode cX3_divide 95 = .ok (.aload_n 0, 1) := by decide +kernel
theorem dX3_divide_96 : decode cX3_divide 96 = .ok (.getfield 9, 3) := by decide +kernel
theorem dX3_divide_99 : decode cX3_divide 99 = .ok (.iload 5, 2) := by decide +kernel
theorem dX3_divide_101 : decode cX3_divide 101 = .ok (.iaload, 1) := by decide +kernel
theorem dX3_divide_102 : decode cX3_divide 102 = .ok (.putfield 25, 3) := by decide +kernel
theorem dX3_divide_105 : decode cX3_divide 105 = .ok (.iinc 4 1, 3) := by decide +kernel
theorem dX3_divide_108 : decode cX3_divide 108 = .ok (.goto (-87), 3) := by decide +kernel
theorem dX3_divide_111 : decode cX3_divide 111 = .ok (.return_, 1) := by decide +kernel
theorem dX3_answerOfPart_0 : decode cX3_answerOfPart 0 = .ok (.iconst 0, 1) := by decide +kernel
theorem dX3_answerOfPart_1 : decode cX3_answerOfPart 1 = .ok (.istore_n 2, 1) := by decide +kernel
theorem dX3_answerOfPart_2 : decode cX3_answerOfPart 2 = .ok (.iconst 0, 1) := by decide +kernel
theorem dX3_answerOfPart_3 : decode cX3_answerOfPart 3 = .ok (.istore_n 3, 1) := by decide +kernel
theorem dX3_answerOfPart_4 : decode cX3_answerOfPart 4 = .ok (.iload_n 3, 1) := by decide +kernel
theorem dX3_answerOfPart_5 : decode cX3_answerOfPart 5 = .ok (.bipush 51, 2) := by decide +kernel
theorem dX3_answerOfPart_7 : decode cX3_answerOfPart 7 = .ok (.if_icmp .ge 28, 3) := by decide +kernel
theorem dX3_answerOfPart_10 : decode cX3_answerOfPart 10 = .ok (.aload_n 0, 1) := by decide +kernel
theorem dX3_answerOfPart_11 : decode cX3_answerOfPart 11 = .ok (.getfield 9, 3) := by decide +kernel
theorem dX3_answerOfPart_14 : decode cX3_answerOfPart 14 = .ok (.iload_n 3, 1) := by decide +kernel
theorem dX3_answerOfPart_15 : decode cX3_answerOfPart 15 = .ok (.iaload, 1) := by decide +kernel
theorem dX3_answerOfPart_16 : decode cX3_answerOfPart 16 = .ok (.ifCond .le 13, 3) := by decide +kernel
theorem dX3_answerOfPart_19 : decode cX3_answerOfPart 19 = .ok (.iload_n 2, 1) := by decide +kernel
theorem dX3_answerOfPart_20 : decode cX3_answerOfPart 20 = .ok (.iload_n 1, 1) := by decide +kernel
theorem dX3_answerOfPart_21 : decode cX3_answerOfPart 21 = .ok (.if_icmp .ne 5, 3) := by decide +kernel
theorem dX3_answerOfPart_24 : decode cX3_answerOfPart 24 = .ok (.iload_n 3, 1) := by decide +kernel
theorem dX3_answerOfPart_25 : decode cX3_answerOfPart 25 = .ok (.ireturn, 1) := by decide +kernel
theorem dX3_answerOfPart_26 : decode cX3_answerOfPart 26 = .ok (.iinc 2 1, 3) := by decide +kernel
theorem dX3_answerOfPart_29 : decode cX3_answerOfPart 29 = .ok (.iinc 3 1, 3) := by decide +kernel
theorem dX3_answerOfPart_32 : decode cX3_answerOfPart 32 = .ok (.goto (-28), 3) := by decide +kernel
theorem dX3_answerOfPart_35 : decode cX3_answerOfPart 35 = .ok (.iconst (-1), 1) := by decide +kernel
theorem dX3_answerOfPart_36 : decode cX3_answerOfPart 36 = .ok (.ireturn, 1) := by decide +kernel
theorem dX4_init_0 : decode cX4_init 0 = .ok (.aload_n 0, 1) := by decide +kernel
theorem dX4_init_1 : decode cX4_init 1 = .ok (.invokespecial 3, 3) := by decide +kernel
theorem dX4_init_4 : decode cX4_init 4 = .ok (.aload_n 0, 1) := by decide +kernel
theorem dX4_init_5 : decode cX4_init 5 = .ok (.bipush 40, 2) := by decide +kernel
theorem dX4_init_7 : decode cX4_init 7 = .ok (.newarray .int, 2) := by decide +kernel
theorem dX4_init_9 : decode cX4_init 9 = .ok (.putfield 9, 3) := by decide +kernel
theorem dX4_init_12 : decode cX4_init 12 = .ok (.aload_n 0, 1) := by decide +kernel
theorem dX4_init_13 : decode cX4_init 13 = .ok (.bipush 40, 2) := by decide +kernel
theorem dX4_init_15 : decode cX4_init 15 = .ok (.newarray .int, 2) := by decide +kernel
theorem dX4_init_17 : decode cX4_init 17 = .ok (.putfield 15, 3) := by decide +kernel
theorem dX4_init_20 : decode cX4_init 20 = .ok (.aload_n 0, 1) := by decide +kernel
theorem dX4_init_21 : decode cX4_init 21 = .ok (.bipush 40, 2) := by decide +kernel
theorem dX4_init_23 : decode cX4_init 23 = .ok (.newarray .int, 2) := by decide +kernel
theorem dX4_init_25 : decode cX4_init 25 = .ok (.putfield 18, 3) := by decide +kernel
theorem dX4_init_28 : decode cX4_init 28 = .ok (.aload_n 0, 1) := by decide +kernel
theorem dX4_init_29 : decode cX4_init 29 = .ok (.bipush 40, 2) := by decide +kernel
theorem dX4_init_31 : decode cX4_init 31 = .ok (.newarray .int, 2) := by decide +kernel
theorem dX4_init_33 : decode cX4_init 33 = .ok (.putfield 21, 3) := by decide +kernel
theorem dX4_init_36 : decode cX4_init 36 = .ok (.aload_n 0, 1) := by decide +kernel
theorem dX4_init_37 : decode cX4_init 37 = .ok (.bipush 40, 2) := by decide +kernel
theorem dX4_init_39 : decode cX4_init 39 = .ok (.newarray .long, 2) := by decide +kernel
theorem dX4_init_41 : decode cX4_init 41 = .ok (.putfield 24, 3) := by decide +kernel
theorem dX4_init_44 : decode cX4_init 44 = .ok (.aload_n 0, 1) := by decide +kernel
theorem dX4_init_45 : decode cX4_init 45 = .ok (.bipush 40, 2) := by decide +kernel
theorem dX4_init_47 : decode cX4_init 47 = .ok (.newarray .boolean, 2) := by decide +kernel
theorem dX4_init_49 : decode cX4_init 49 = .ok (.putfield 28, 3) := by decide +kernel
theorem dX4_init_52 : decode cX4_init 52 = .ok (.aload_n 0, 1) := by decide +kernel
theorem dX4_init_53 : decode cX4_init 53 = .ok (.bipush 40, 2) := by decide +kernel
theorem dX4_init_55 : decode cX4_init 55 = .ok (.newarray .long, 2) := by decide +kernel
theorem dX4_init_57 : decode cX4_init 57 = .ok (.putfield 32, 3) := by decide +kernel
theorem dX4_init_60 : decode cX4_init 60 = .ok (.aload_n 0, 1) := by decide +kernel
theorem dX4_init_61 : decode cX4_init 61 = .ok (.bipush 40, 2) := by decide +kernel
theorem dX4_init_63 : decode cX4_init 63 = .ok (.newarray .int, 2) := by decide +kernel
theorem dX4_init_65 : decode cX4_init 65 = .ok (.putfield 35, 3) := by decide +kernel
theorem dX4_init_68 : decode cX4_init 68 = .ok (.return_, 1) := by decide +kernel
theorem dX4_empty_0 : decode cX4_empty 0 = .ok (.aload_n 0, 1) := by decide +kernel
theorem dX4_empty_1 : decode cX4_empty 1 = .ok (.iconst 0, 1) := by decide +kernel
theorem dX4_empty_2 : decode cX4_empty 2 = .ok (.putfield 38, 3) := by decide +kernel
theorem dX4_empty_5 : decode cX4_empty 5 = .ok (.aload_n 0, 1) := by decide +kernel
theorem dX4_empty_6 : decode cX4_empty 6 = .ok (.iconst 0, 1) := by decide +kernel
theorem dX4_empty_7 : decode cX4_empty 7 = .ok (.putfield 42, 3) := by decide +kernel
theorem dX4_empty_10 : decode cX4_empty 10 = .ok (.return_, 1) := by decide +kernel
theorem dX4_has_0 : decode cX4_has 0 = .ok (.iload_n 1, 1) := by decide +kernel
theorem dX4_has_1 : decode cX4_has 1 = .ok (.ifCond .lt 15, 3) := by decide +kernel
theorem dX4_has_4 : decode cX4_has 4 = .ok (.iload_n 1, 1) := by decide +kernel
theorem dX4_has_5 : decode cX4_has 5 = .ok (.aload_n 0, 1) := by decide +kernel
theorem dX4_has_6 : decode cX4_has 6 = .ok (.getfield 38, 3) := by decide +kernel
theorem dX4_has_9 : decode cX4_has 9 = .ok (.if_icmp .ge 7, 3) := by decide +kernel
theorem dX4_has_12 : decode cX4_has 12 = .ok (.iconst 1, 1) := by decide +kernel
theorem dX4_has_13 : decode cX4_has 13 = .ok (.goto 4, 3) := by decide +kernel
theorem dX4_has_16 : decode cX4_has 16 = .ok (.iconst 0, 1) := by decide +kernel
theorem dX4_has_17 : decode cX4_has 17 = .ok (.ireturn, 1) := by decide +kernel
theorem dX4_add_0 : decode cX4_add 0 = .ok (.aload_n 0, 1) := by decide +kernel
theorem dX4_add_1 : decode cX4_add 1 = .ok (.getfield 9, 3) := by decide +kernel
theorem dX4_add_4 : decode cX4_add 4 = .ok (.aload_n 0, 1) := by decide +kernel
theorem dX4_add_5 : decode cX4_add 5 = .ok (.getfield 38, 3) := by decide +kernel
theorem dX4_add_8 : decode cX4_add 8 = .ok (.iload_n 1, 1) := by decide +kernel
theorem dX4_add_9 : decode cX4_add 9 = .ok (.iastore, 1) := by decide +kernel
theorem dX4_add_10 : decode cX4_add 10 = .ok (.aload_n 0, 1) := by decide +kernel
theorem dX4_add_11 : decode cX4_add 11 = .ok (.getfield 15, 3) := by decide +kernel
theorem dX4_add_14 : decode cX4_add 14 = .ok (.aload_n 0, 1) := by decide +kernel
theorem dX4_add_15 : decode cX4_add 15 = .ok (.getfield 38, 3) := by decide +kernel
theorem dX4_add_18 : decode cX4_add 18 = .ok (.iload_n 2, 1) := by decide +kernel
theorem dX4_add_19 : decode cX4_add 19 = .ok (.iastore, 1) := by decide +kernel
theorem dX4_add_20 : decode cX4_add 20 = .ok (.aload_n 0, 1) := by decide +kernel
theorem dX4_add_21 : decode cX4_add 21 = .ok (.getfield 18, 3) := by decide +kernel
theorem dX4_add_24 : decode cX4_add 24 = .ok (.aload_n 0, 1) := by decide +kernel
theorem dX4_add_25 : decode cX4_add 25 = .ok (.getfield 38, 3) := by decide +kernel
theorem dX4_add_28 : decode cX4_add 28 = .ok (.iload_n 3, 1) := by decide +kernel
theorem dX4_add_29 : decode cX4_add 29 = .ok (.iastore, 1) := by decide +kernel
theorem dX4_add_30 : decode cX4_add 30 = .ok (.aload_n 0, 1) := by decide +kernel
theorem dX4_add_31 : decode cX4_add 31 = .ok (.getfield 24, 3) := by decide +kernel
theorem dX4_add_34 : decode cX4_add 34 = .ok (.aload_n 0, 1) := by decide +kernel
theorem dX4_add_35 : decode cX4_add 35 = .ok (.getfield 38, 3) := by decide +kernel
theorem dX4_add_38 : decode cX4_add 38 = .ok (.lconst 0, 1) := by decide +kernel
theorem dX4_add_39 : decode cX4_add 39 = .ok (.lastore, 1) := by decide +kernel
theorem dX4_add_40 : decode cX4_add 40 = .ok (.aload_n 0, 1) := by decide +kernel
theorem dX4_add_41 : decode cX4_add 41 = .ok (.getfield 28, 3) := by decide +kernel
theorem dX4_add_44 : decode cX4_add 44 = .ok (.aload_n 0, 1) := by decide +kernel
theorem dX4_add_45 : decode cX4_add 45 = .ok (.getfield 38, 3) := by decide +kernel
theorem dX4_add_48 : decode cX4_add 48 = .ok (.iconst 0, 1) := by decide +kernel
theorem dX4_add_49 : decode cX4_add 49 = .ok (.bastore, 1) := by decide +kernel
theorem dX4_add_50 : decode cX4_add 50 = .ok (.aload_n 0, 1) := by decide +kernel
theorem dX4_add_51 : decode cX4_add 51 = .ok (.getfield 21, 3) := by decide +kernel
theorem dX4_add_54 : decode cX4_add 54 = .ok (.aload_n 0, 1) := by decide +kernel
theorem dX4_add_55 : decode cX4_add 55 = .ok (.getfield 38, 3) := by decide +kernel
theorem dX4_add_58 : decode cX4_add 58 = .ok (.iconst 1, 1) := by decide +kernel
theorem dX4_add_59 : decode cX4_add 59 = .ok (.iastore, 1) := by decide +kernel
theorem dX4_add_60 : decode cX4_add 60 = .ok (.aload_n 0, 1) := by decide +kernel
theorem dX4_add_61 : decode cX4_add 61 = .ok (.iload_n 1, 1) := by decide +kernel
theorem dX4_add_62 : decode cX4_add 62 = .ok (.invokevirtual 45, 3) := by decide +kernel
theorem dX4_add_65 : decode cX4_add 65 = .ok (.ifCond .eq 57, 3) := by decide +kernel
theorem dX4_add_68 : decode cX4_add 68 = .ok (.lconst 1, 1) := by decide +kernel
theorem dX4_add_69 : decode cX4_add 69 = .ok (.iload_n 2, 1) := by decide +kernel
theorem dX4_add_70 : decode cX4_add 70 = .ok (.lshl, 1) := by decide +kernel
theorem dX4_add_71 : decode cX4_add 71 = .ok (.lstore 4, 2) := by decide +kernel
theorem dX4_add_73 : decode cX4_add 73 = .ok (.aload_n 0, 1) := by decide +kernel
theorem dX4_add_74 : decode cX4_add 74 = .ok (.getfield 24, 3) := by decide +kernel
theorem dX4_add_77 : decode cX4_add 77 = .ok (.iload_n 1, 1) := by decide +kernel
theorem dX4_add_78 : decode cX4_add 78 = .ok (.laload, 1) := by decide +kernel
theorem dX4_add_79 : decode cX4_add 79 = .ok (.lload 4, 2) := by decide +kernel
theorem dX4_add_81 : decode cX4_add 81 = .ok (.land, 1) := by decide +kernel
theorem dX4_add_82 : decode cX4_add 82 = .ok (.lconst 0, 1) := by decide +kernel
theorem dX4_add_83 : decode cX4_add 83 = .ok (.lcmp, 1) := by decide +kernel
theorem dX4_add_84 : decode cX4_add 84 = .ok (.ifCond .eq 10, 3) := by decide +kernel
theorem dX4_add_87 : decode cX4_add 87 = .ok (.aload_n 0, 1) := by decide +kernel
theorem dX4_add_88 : decode cX4_add 88 = .ok (.getfield 28, 3) := by decide +kernel
theorem dX4_add_91 : decode cX4_add 91 = .ok (.iload_n 1, 1) := by decide +kernel
theorem dX4_add_92 : decode cX4_add 92 = .ok (.iconst 1, 1) := by decide +kernel
theorem dX4_add_93 : decode cX4_add 93 = .ok (.bastore, 1) := by decide +kernel
theorem dX4_add_94 : decode cX4_add 94 = .ok (.aload_n 0, 1) := by decide +kernel
theorem dX4_add_95 : decode cX4_add 95 = .ok (.getfield 24, 3) := by decide +kernel
theorem dX4_add_98 : decode cX4_add 98 = .ok (.iload_n 1, 1) := by decide +kernel
theorem dX4_add_99 : decode cX4_add 99 = .ok (.dup2, 1) := by decide +kernel
theorem dX4_add_100 : decode cX4_add 100 = .ok (.laload, 1) := by decide +kernel
theorem dX4_add_101 : decode cX4_add 101 = .ok (.lload 4, 2) := by decide +kernel
theorem dX4_add_103 : decode cX4_add 103 = .ok (.lor, 1) := by decide +kernel
theorem dX4_add_104 : decode cX4_add 104 = .ok (.lastore, 1) := by decide +kernel
theorem dX4_add_105 : decode cX4_add 105 = .ok (.aload_n 0, 1) := by decide +kernel
theorem dX4_add_106 : decode cX4_add 106 = .ok (.getfield 21, 3) := by decide +kernel
theorem dX4_add_109 : decode cX4_add 109 = .ok (.aload_n 0, 1) := by decide +kernel
theorem dX4_add_110 : decode cX4_add 110 = .ok (.getfield 38, 3) := by decide +kernel
theorem dX4_add_113 : decode cX4_add 113 = .ok (.aload_n 0, 1) := by decide +kernel
theorem dX4_add_114 : decode cX4_add 114 = .ok (.getfield 21, 3) := by decide +kernel
theorem dX4_add_117 : decode cX4_add 117 = .ok (.iload_n 1, 1) := by decide +kernel
theorem dX4_add_118 : decode cX4_add 118 = .ok (.iaload, 1) := by decide +kernel
theorem dX4_add_119 : decode cX4_add 119 = .ok (.iconst 1, 1) := by decide +kernel
theorem dX4_add_120 : decode cX4_add 120 = .ok (.iadd, 1) := by decide +kernel
theorem dX4_add_121 : decode cX4_add 121 = .ok (.iastore, 1) := by decide +kernel
theorem dX4_add_122 : decode cX4_add 122 = .ok (.aload_n 0, 1) := by decide +kernel
theorem dX4_add_123 : decode cX4_add 123 = .ok (.aload_n 0, 1) := by decide +kernel
theorem dX4_add_124 : decode cX4_add 124 = .ok (.getfield 42, 3) := by decide +kernel
theorem dX4_add_127 : decode cX4_add 127 = .ok (.aload_n 0, 1) := by decide +kernel
theorem dX4_add_128 : decode cX4_add 128 = .ok (.getfield 21, 3) := by decide +kernel
theorem dX4_add_131 : decode cX4_add 131 = .ok (.aload_n 0, 1) := by decide +kernel
theorem dX4_add_132 : decode cX4_add 132 = .ok (.getfield 38, 3) := by decide +kernel
theorem dX4_add_135 : decode cX4_add 135 = .ok (.iaload, 1) := by decide +kernel
theorem dX4_add_136 : decode cX4_add 136 = .ok (.invokestatic 49, 3) := by decide +kernel
theorem dX4_add_139 : decode cX4_add 139 = .ok (.putfield 42, 3) := by decide +kernel
theorem dX4_add_142 : decode cX4_add 142 = .ok (.aload_n 0, 1) := by decide +kernel
theorem dX4_add_143 : decode cX4_add 143 = .ok (.dup, 1) := by decide +kernel
theorem dX4_add_144 : decode cX4_add 144 = .ok (.getfield 38, 3) := by decide +kernel
theorem dX4_add_147 : decode cX4_add 147 = .ok (.iconst 1, 1) := by decide +kernel
theorem dX4_add_148 : decode cX4_add 148 = .ok (.iadd, 1) := by decide +kernel
theorem dX4_add_149 : decode cX4_add 149 = .ok (.putfield 38, 3) := by decide +kernel
theorem dX4_add_152 : decode cX4_add 152 = .ok (.return_, 1) := by decide +kernel
theorem dX4_follow_0 : decode cX4_follow 0 = .ok (.aload_n 0, 1) := by decide +kernel
theorem dX4_follow_1 : decode cX4_follow 1 = .ok (.iconst 0, 1) := by decide +kernel
theorem dX4_follow_2 : decode cX4_follow 2 = .ok (.putfield 55, 3) := by decide +kernel
theorem dX4_follow_5 : decode cX4_follow 5 = .ok (.aload_n 0, 1) := by decide +kernel
theorem dX4_follow_6 : decode cX4_follow 6 = .ok (.getfield 32, 3) := by decide +kernel
theorem dX4_follow_9 : decode cX4_follow 9 = .ok (.lconst 0, 1) := by decide +kernel
theorem dX4_follow_10 : decode cX4_follow 10 = .ok (.invokestatic 58, 3) := by decide +kernel
theorem dX4_follow_13 : decode cX4_follow 13 = .ok (.iconst 0, 1) := by decide +kernel
theorem dX4_follow_14 : decode cX4_follow 14 = .ok (.istore_n 2, 1) := by decide +kernel
theorem dX4_follow_15 : decode cX4_follow 15 = .ok (.iload_n 2, 1) := by decide +kernel
theorem dX4_follow_16 : decode cX4_follow 16 = .ok (.aload_n 1, 1) := by decide +kernel
theorem dX4_follow_17 : decode cX4_follow 17 = .ok (.getfield 64, 3) := by decide +kernel
theorem dX4_follow_20 : decode cX4_follow 20 = .ok (.if_icmp .ge 23, 3) := by decide +kernel
theorem dX4_follow_23 : decode cX4_follow 23 = .ok (.aload_n 0, 1) := by decide +kernel
theorem dX4_follow_24 : decode cX4_follow 24 = .ok (.aload_n 1, 1) := by decide +kernel
theorem dX4_follow_25 : decode cX4_follow 25 = .ok (.getfield 69, 3) := by decide +kernel
theorem dX4_follow_28 : decode cX4_follow 28 = .ok (.aload_n 1, 1) := by decide +kernel
theorem dX4_follow_29 : decode cX4_follow 29 = .ok (.getfield 73, 3) := by decide +kernel
theorem dX4_follow_32 : decode cX4_follow 32 = .ok (.iload_n 2, 1) := by decide +kernel
theorem dX4_follow_33 : decode cX4_follow 33 = .ok (.iaload, 1) := by decide +kernel
theorem dX4_follow_34 : decode cX4_follow 34 = .ok (.invokevirtual 76, 3) := by decide +kernel
theorem dX4_follow_37 : decode cX4_follow 37 = .ok (.iinc 2 1, 3) := by decide +kernel
theorem dX4_follow_40 : decode cX4_follow 40 = .ok (.goto (-25), 3) := by decide +kernel
theorem dX4_follow_43 : decode cX4_follow 43 = .ok (.return_, 1) := by decide +kernel
theorem dX4_followCode_0 : decode cX4_followCode 0 = .ok (.lconst 0, 1) := by decide +kernel
theorem dX4_followCode_1 : decode cX4_followCode 1 = .ok (.lstore_n 3, 1) := by decide +kernel
theorem dX4_followCode_2 : decode cX4_followCode 2 = .ok (.iconst 0, 1) := by decide +kernel
theorem dX4_followCode_3 : decode cX4_followCode 3 = .ok (.istore 5, 2) := by decide +kernel
theorem dX4_followCode_5 : decode cX4_followCode 5 = .ok (.iload 5, 2) := by decide +kernel
theorem dX4_followCode_7 : decode cX4_followCode 7 = .ok (.aload_n 0, 1) := by decide +kernel
theorem dX4_followCode_8 : decode cX4_followCode 8 = .ok (.getfield 38, 3) := by decide +kernel
theorem dX4_followCode_11 : decode cX4_followCode 11 = .ok (.if_icmp .ge 120, 3) := by decide +kernel
theorem dX4_followCode_14 : decode cX4_followCode 14 = .ok (.aload_n 0, 1) := by decide +kernel
theorem dX4_followCode_15 : decode cX4_followCode 15 = .ok (.getfield 9, 3) := by decide +kernel
theorem dX4_followCode_18 : decode cX4_followCode 18 = .ok (.iload 5, 2) := by decide +kernel
theorem dX4_followCode_20 : decode cX4_followCode 20 = .ok (.iaload, 1) := by decide +kernel
theorem dX4_followCode_21 : decode cX4_followCode 21 = .ok (.istore 6, 2) := by decide +kernel
theorem dX4_followCode_23 : decode cX4_followCode 23 = .ok (.iload 5, 2) := by decide +kernel
theorem dX4_followCode_25 : decode cX4_followCode 25 = .ok (.ifCond .eq 31, 3) := by decide +kernel
theorem dX4_followCode_28 : decode cX4_followCode 28 = .ok (.lload_n 3, 1) := by decide +kernel
theorem dX4_followCode_29 : decode cX4_followCode 29 = .ok (.iload 6, 2) := by decide +kernel
theorem dX4_followCode_31 : decode cX4_followCode 31 = .ok (.lushr, 1) := by decide +kernel
theorem dX4_followCode_32 : decode cX4_followCode 32 = .ok (.lconst 1, 1) := by decide +kernel
theorem dX4_followCode_33 : decode cX4_followCode 33 = .ok (.land, 1) := by decide +kernel
theorem dX4_followCode_34 : decode cX4_followCode 34 = .ok (.lconst 0, 1) := by decide +kernel
theorem dX4_followCode_35 : decode cX4_followCode 35 = .ok (.lcmp, 1) := by decide +kernel
theorem dX4_followCode_36 : decode cX4_followCode 36 = .ok (.ifCond .eq 89, 3) := by decide +kernel
theorem dX4_followCode_39 : decode cX4_followCode 39 = .ok (.aload_n 0, 1) := by decide +kernel
theorem dX4_followCode_40 : decode cX4_followCode 40 = .ok (.getfield 35, 3) := by decide +kernel
theorem dX4_followCode_43 : decode cX4_followCode 43 = .ok (.iload 6, 2) := by decide +kernel
theorem dX4_followCode_45 : decode cX4_followCode 45 = .ok (.iaload, 1) := by decide +kernel
theorem dX4_followCode_46 : decode cX4_followCode 46 = .ok (.aload_n 0, 1) := by decide +kernel
theorem dX4_followCode_47 : decode cX4_followCode 47 = .ok (.getfield 15, 3) := by decide +kernel
theorem dX4_followCode_50 : decode cX4_followCode 50 = .ok (.iload 5, 2) := by decide +kernel
theorem dX4_followCode_52 : decode cX4_followCode 52 = .ok (.iaload, 1) := by decide +kernel
theorem dX4_followCode_53 : decode cX4_followCode 53 = .ok (.if_icmp .ne 72, 3) := by decide +kernel
theorem dX4_followCode_56 : decode cX4_followCode 56 = .ok (.lload_n 3, 1) := by decide +kernel
theorem dX4_followCode_57 : decode cX4_followCode 57 = .ok (.lconst 1, 1) := by decide +kernel
theorem dX4_followCode_58 : decode cX4_followCode 58 = .ok (.iload 5, 2) := by decide +kernel
theorem dX4_followCode_60 : decode cX4_followCode 60 = .ok (.lshl, 1) := by decide +kernel
theorem dX4_followCode_61 : decode cX4_followCode 61 = .ok (.lor, 1) := by decide +kernel
theorem dX4_followCode_62 : decode cX4_followCode 62 = .ok (.lstore_n 3, 1) := by decide +kernel
theorem dX4_followCode_63 : decode cX4_followCode 63 = .ok (.aload_n 0, 1) := by decide +kernel
theorem dX4_followCode_64 : decode cX4_followCode 64 = .ok (.dup, 1) := by decide +kernel
theorem dX4_followCode_65 : decode cX4_followCode 65 = .ok (.getfield 55, 3) := by decide +kernel
theorem dX4_followCode_68 : decode cX4_followCode 68 = .ok (.iconst 1, 1) := by decide +kernel
theorem dX4_followCode_69 : decode cX4_followCode 69 = .ok (.iadd, 1) := by decide +kernel
theorem dX4_followCode_70 : decode cX4_followCode 70 = .ok (.putfield 55, 3) := by decide +kernel
theorem dX4_followCode_73 : decode cX4_followCode 73 = .ok (.aload_n 0, 1) := by decide +kernel
theorem dX4_followCode_74 : decode cX4_followCode 74 = .ok (.getfield 35, 3) := by decide +kernel
theorem dX4_followCode_77 : decode cX4_followCode 77 = .ok (.iload 5, 2) := by decide +kernel
theorem dX4_followCode_79 : decode cX4_followCode 79 = .ok (.aload_n 1, 1) := by decide +kernel
theorem dX4_followCode_80 : decode cX4_followCode 80 = .ok (.aload_n 0, 1) := by decide +kernel
theorem dX4_followCode_81 : decode cX4_followCode 81 = .ok (.getfield 18, 3) := by decide +kernel
theorem dX4_followCode_84 : decode cX4_followCode 84 = .ok (.iload 5, 2) := by decide +kernel
theorem dX4_followCode_86 : decode cX4_followCode 86 = .ok (.iaload, 1) := by decide +kernel
theorem dX4_followCode_87 : decode cX4_followCode 87 = .ok (.iload_n 2, 1) := by decide +kernel
theorem dX4_followCode_88 : decode cX4_followCode 88 = .ok (.invokevirtual 80, 3) := by decide +kernel
theorem dX4_followCode_91 : decode cX4_followCode 91 = .ok (.iastore, 1) := by decide +kernel
theorem dX4_followCode_92 : decode cX4_followCode 92 = .ok (.aload_n 0, 1) := by decide +kernel
theorem dX4_followCode_93 : decode cX4_followCode 93 = .ok (.getfield 35, 3) := by decide +kernel
theorem dX4_followCode_96 : decode cX4_followCode 96 = .ok (.iload 5, 2) := by decide +kernel
theorem dX4_followCode_98 : decode cX4_followCode 98 = .ok (.iaload, 1) := by decide +kernel
theorem dX4_followCode_99 : decode cX4_followCode 99 = .ok (.aload_n 1, 1) := by decide +kernel
theorem dX4_followCode_100 : decode cX4_followCode 100 = .ok (.invokevirtual 85, 3) := by decide +kernel
theorem dX4_followCode_103 : decode cX4_followCode 103 = .ok (.if_icmp .eq 22, 3) := by decide +kernel
theorem dX4_followCode_106 : decode cX4_followCode 106 = .ok (.aload_n 0, 1) := by decide +kernel
theorem dX4_followCode_107 : decode cX4_followCode 107 = .ok (.getfield 32, 3) := by decide +kernel
theorem dX4_followCode_110 : decode cX4_followCode 110 = .ok (.iload 5, 2) := by decide +kernel
theorem dX4_followCode_112 : decode cX4_followCode 112 = .ok (.dup2, 1) := by decide +kernel
theorem dX4_followCode_113 : decode cX4_followCode 113 = .ok (.laload, 1) := by decide +kernel
theorem dX4_followCode_114 : decode cX4_followCode 114 = .ok (.lconst 1, 1) := by decide +kernel
theorem dX4_followCode_115 : decode cX4_followCode 115 = .ok (.aload_n 0, 1) := by decide +kernel
theorem dX4_followCode_116 : decode cX4_followCode 116 = .ok (.getfield 35, 3) := by decide +kernel
theorem dX4_followCode_119 : decode cX4_followCode 119 = .ok (.iload 5, 2) := by decide +kernel
theorem dX4_followCode_121 : decode cX4_followCode 121 = .ok (.iaload, 1) := by decide +kernel
theorem dX4_followCode_122 : decode cX4_followCode 122 = .ok (.lshl, 1) := by decide +kernel
theorem dX4_followCode_123 : decode cX4_followCode 123 = .ok (.lor, 1) := by decide +kernel
theorem dX4_followCode_124 : decode cX4_followCode 124 = .ok (.lastore, 1) := by decide +kernel
theorem dX4_followCode_125 : decode cX4_followCode 125 = .ok (.iinc 5 1, 3) := by decide +kernel
theorem dX4_followCode_128 : decode cX4_followCode 128 = .ok (.goto (-123), 3) := by decide +kernel
theorem dX4_followCode_131 : decode cX4_followCode 131 = .ok (.return_, 1) := by decide +kernel
theorem dX4_firstNotWhole_0 : decode cX4_firstNotWhole 0 = .ok (.iconst 0, 1) := by decide +kernel
theorem dX4_firstNotWhole_1 : decode cX4_firstNotWhole 1 = .ok (.istore_n 1, 1) := by decide +kernel
theorem dX4_firstNotWhole_2 : decode cX4_firstNotWhole 2 = .ok (.iload_n 1, 1) := by decide +kernel
theorem dX4_firstNotWhole_3 : decode cX4_firstNotWhole 3 = .ok (.aload_n 0, 1) := by decide +kernel
theorem dX4_firstNotWhole_4 : decode cX4_firstNotWhole 4 = .ok (.getfield 38, 3) := by decide +kernel
theorem dX4_firstNotWhole_7 : decode cX4_firstNotWhole 7 = .ok (.if_icmp .ge 36, 3) := by decide +kernel
theorem dX4_firstNotWhole_10 : decode cX4_firstNotWhole 10 = .ok (.aload_n 0, 1) := by decide +kernel
theorem dX4_firstNotWhole_11 : decode cX4_firstNotWhole 11 = .ok (.getfield 28, 3) := by decide +kernel
theorem dX4_firstNotWhole_14 : decode cX4_firstNotWhole 14 = .ok (.iload_n 1, 1) := by decide +kernel
theorem dX4_firstNotWhole_15 : decode cX4_firstNotWhole 15 = .ok (.baload, 1) := by decide +kernel
theorem dX4_firstNotWhole_16 : decode cX4_firstNotWhole 16 = .ok (.ifCond .ne 19, 3) := by decide +kernel
theorem dX4_firstNotWhole_19 : decode cX4_firstNotWhole 19 = .ok (.aload_n 0, 1) := by decide +kernel
theorem dX4_firstNotWhole_20 : decode cX4_firstNotWhole 20 = .ok (.getfield 24, 3) := by decide +kernel
theorem dX4_firstNotWhole_23 : decode cX4_firstNotWhole 23 = .ok (.iload_n 1, 1) := by decide +kernel
theorem dX4_firstNotWhole_24 : decode cX4_firstNotWhole 24 = .ok (.laload, 1) := by decide +kernel
theorem dX4_firstNotWhole_25 : decode cX4_firstNotWhole 25 = .ok (.aload_n 0, 1) := by decide +kernel
theorem dX4_firstNotWhole_26 : decode cX4_firstNotWhole 26 = .ok (.getfield 32, 3) := by decide +kernel
theorem dX4_firstNotWhole_29 : decode cX4_firstNotWhole 29 = .ok (.iload_n 1, 1) := by decide +kernel
theorem dX4_firstNotWhole_30 : decode cX4_firstNotWhole 30 = .ok (.laload, 1) := by decide +kernel
theorem dX4_firstNotWhole_31 : decode cX4_firstNotWhole 31 = .ok (.lcmp, 1) := by decide +kernel
theorem dX4_firstNotWhole_32 : decode cX4_firstNotWhole 32 = .ok (.ifCond .eq 5, 3) := by decide +kernel
theorem dX4_firstNotWhole_35 : decode cX4_firstNotWhole 35 = .ok (.iload_n 1, 1) := by decide +kernel
theorem dX4_firstNotWhole_36 : decode cX4_firstNotWhole 36 = .ok (.ireturn, 1) := by decide +kernel
theorem dX4_firstNotWhole_37 : decode cX4_firstNotWhole 37 = .ok (.iinc 1 1, 3) := by decide +kernel
theorem dX4_firstNotWhole_40 : decode cX4_firstNotWhole 40 = .ok (.goto (-38), 3) := by decide +kernel
theorem dX4_firstNotWhole_43 : decode cX4_firstNotWhole 43 = .ok (.iconst (-1), 1) := by decide +kernel
theorem dX4_firstNotWhole_44 : decode cX4_firstNotWhole 44 = .ok (.ireturn, 1) := by decide +kernel
theorem dX5_init_0 : decode cX5_init 0 = .ok (.aload_n 0, 1) := by decide +kernel
theorem dX5_init_1 : decode cX5_init 1 = .ok (.invokespecial 3, 3) := by decide +kernel
theorem dX5_init_4 : decode cX5_init 4 = .ok (.aload_n 0, 1) := by decide +kernel
theorem dX5_init_5 : decode cX5_init 5 = .ok (.new 9, 3) := by decide +kernel
theorem dX5_init_8 : decode cX5_init 8 = .ok (.dup, 1) := by decide +kernel
theorem dX5_init_9 : decode cX5_init 9 = .ok (.invokespecial 11, 3) := by decide +kernel
theorem dX5_init_12 : decode cX5_init 12 = .ok (.putfield 12, 3) := by decide +kernel
theorem dX5_init_15 : decode cX5_init 15 = .ok (.aload_n 0, 1) := by decide +kernel
theorem dX5_init_16 : decode cX5_init 16 = .ok (.bipush 50, 2) := by decide +kernel
theorem dX5_init_18 : decode cX5_init 18 = .ok (.newarray .int, 2) := by decide +kernel
theorem dX5_init_20 : decode cX5_init 20 = .ok (.putfield 18, 3) := by decide +kernel
theorem dX5_init_23 : decode cX5_init 23 = .ok (.aload_n 0, 1) := by decide +kernel
theorem dX5_init_24 : decode cX5_init 24 = .ok (.bipush 10, 2) := by decide +kernel
theorem dX5_init_26 : decode cX5_init 26 = .ok (.newarray .int, 2) := by decide +kernel
theorem dX5_init_28 : decode cX5_init 28 = .ok (.putfield 22, 3) := by decide +kernel
theorem dX5_init_31 : decode cX5_init 31 = .ok (.aload_n 0, 1) := by decide +kernel
theorem dX5_init_32 : decode cX5_init 32 = .ok (.sipush 4096, 3) := by decide +kernel
theorem dX5_init_35 : decode cX5_init 35 = .ok (.newarray .boolean, 2) := by decide +kernel
theorem dX5_init_37 : decode cX5_init 37 = .ok (.putfield 25, 3) := by decide +kernel
theorem dX5_init_40 : decode cX5_init 40 = .ok (.aload_n 0, 1) := by decide +kernel
theorem dX5_init_41 : decode cX5_init 41 = .ok (.sipush 4096, 3) := by decide +kernel
theorem dX5_init_44 : decode cX5_init 44 = .ok (.newarray .boolean, 2) := by decide +kernel
theorem dX5_init_46 : decode cX5_init 46 = .ok (.putfield 29, 3) := by decide +kernel
theorem dX5_init_49 : decode cX5_init 49 = .ok (.aload_n 0, 1) := by decide +kernel
theorem dX5_init_50 : decode cX5_init 50 = .ok (.sipush 4096, 3) := by decide +kernel
theorem dX5_init_53 : decode cX5_init 53 = .ok (.newarray .int, 2) := by decide +kernel
theorem dX5_init_55 : decode cX5_init 55 = .ok (.putfield 32, 3) := by decide +kernel
theorem dX5_init_58 : decode cX5_init 58 = .ok (.aload_n 0, 1) := by decide +kernel
theorem dX5_init_59 : decode cX5_init 59 = .ok (.sipush 4096, 3) := by decide +kernel
theorem dX5_init_62 : decode cX5_init 62 = .ok (.newarray .int, 2) := by decide +kernel
theorem dX5_init_64 : decode cX5_init 64 = .ok (.putfield 35, 3) := by decide +kernel
theorem dX5_init_67 : decode cX5_init 67 = .ok (.aload_n 0, 1) := by decide +kernel
theorem dX5_init_68 : decode cX5_init 68 = .ok (.aload_n 1, 1) := by decide +kernel
theorem dX5_init_69 : decode cX5_init 69 = .ok (.putfield 38, 3) := by decide +kernel
theorem dX5_init_72 : decode cX5_init 72 = .ok (.return_, 1) := by decide +kernel
theorem dX5_startAnew_0 : decode cX5_startAnew 0 = .ok (.iconst 0, 1) := by decide +kernel
theorem dX5_startAnew_1 : decode cX5_startAnew 1 = .ok (.istore_n 1, 1) := by decide +kernel
theorem dX5_startAnew_2 : decode cX5_startAnew 2 = .ok (.iload_n 1, 1) := by decide +kernel
theorem dX5_startAnew_3 : decode cX5_startAnew 3 = .ok (.aload_n 0, 1) := by decide +kernel
theorem dX5_startAnew_4 : decode cX5_startAnew 4 = .ok (.getfield 38, 3) := by decide +kernel
theorem dX5_startAnew_7 : decode cX5_startAnew 7 = .ok (.getfield 42, 3) := by decide +kernel
theorem dX5_startAnew_10 : decode cX5_startAnew 10 = .ok (.if_icmp .ge 23, 3) := by decide +kernel
theorem dX5_startAnew_13 : decode cX5_startAnew 13 = .ok (.aload_n 0, 1) := by decide +kernel
theorem dX5_startAnew_14 : decode cX5_startAnew 14 = .ok (.getfield 25, 3) := by decide +kernel
theorem dX5_startAnew_17 : decode cX5_startAnew 17 = .ok (.iload_n 1, 1) := by decide +kernel
theorem dX5_startAnew_18 : decode cX5_startAnew 18 = .ok (.iconst 0, 1) := by decide +kernel
theorem dX5_startAnew_19 : decode cX5_startAnew 19 = .ok (.bastore, 1) := by decide +kernel
theorem dX5_startAnew_20 : decode cX5_startAnew 20 = .ok (.aload_n 0, 1) := by decide +kernel
theorem dX5_startAnew_21 : decode cX5_startAnew 21 = .ok (.getfield 32, 3) := by decide +kernel
theorem dX5_startAnew_24 : decode cX5_startAnew 24 = .ok (.iload_n 1, 1) := by decide +kernel
theorem dX5_startAnew_25 : decode cX5_startAnew 25 = .ok (.iconst 0, 1) := by decide +kernel
theorem dX5_startAnew_26 : decode cX5_startAnew 26 = .ok (.iastore, 1) := by decide +kernel
theorem dX5_startAnew_27 : decode cX5_startAnew 27 = .ok (.iinc 1 1, 3) := by decide +kernel
theorem dX5_startAnew_30 : decode cX5_startAnew 30 = .ok (.goto (-28), 3) := by decide +kernel
theorem dX5_startAnew_33 : decode cX5_startAnew 33 = .ok (.aload_n 0, 1) := by decide +kernel
theorem dX5_startAnew_34 : decode cX5_startAnew 34 = .ok (.iconst 0, 1) := by decide +kernel
theorem dX5_startAnew_35 : decode cX5_startAnew 35 = .ok (.putfield 48, 3) := by decide +kernel
theorem dX5_startAnew_38 : decode cX5_startAnew 38 = .ok (.aload_n 0, 1) := by decide +kernel
theorem dX5_startAnew_39 : decode cX5_startAnew 39 = .ok (.iconst 0, 1) := by decide +kernel
theorem dX5_startAnew_40 : decode cX5_startAnew 40 = .ok (.putfield 51, 3) := by decide +kernel
theorem dX5_startAnew_43 : decode cX5_startAnew 43 = .ok (.aload_n 0, 1) := by decide +kernel
theorem dX5_startAnew_44 : decode cX5_startAnew 44 = .ok (.iconst 0, 1) := by decide +kernel
theorem dX5_startAnew_45 : decode cX5_startAnew 45 = .ok (.putfield 54, 3) := by decide +kernel
theorem dX5_startAnew_48 : decode cX5_startAnew 48 = .ok (.aload_n 0, 1) := by decide +kernel
theorem dX5_startAnew_49 : decode cX5_startAnew 49 = .ok (.iconst (-1), 1) := by decide +kernel
theorem dX5_startAnew_50 : decode cX5_startAnew 50 = .ok (.putfield 57, 3) := by decide +kernel
theorem dX5_startAnew_53 : decode cX5_startAnew 53 = .ok (.aload_n 0, 1) := by decide +kernel
theorem dX5_startAnew_54 : decode cX5_startAnew 54 = .ok (.iconst 0, 1) := by decide +kernel
theorem dX5_startAnew_55 : decode cX5_startAnew 55 = .ok (.iconst 0, 1) := by decide +kernel
theorem dX5_startAnew_56 : decode cX5_startAnew 56 = .ok (.invokevirtual 60, 3) := by decide +kernel
theorem dX5_startAnew_59 : decode cX5_startAnew 59 = .ok (.return_, 1) := by decide +kernel
theorem dX5_setLaw_0 : decode cX5_setLaw 0 = .ok (.aload_n 0, 1) := by decide +kernel
theorem dX5_setLaw_1 : decode cX5_setLaw 1 = .ok (.iload_n 1, 1) := by decide +kernel
theorem dX5_setLaw_2 : decode cX5_setLaw 2 = .ok (.putfield 64, 3) := by decide +kernel
theorem dX5_setLaw_5 : decode cX5_setLaw 5 = .ok (.aload_n 0, 1) := by decide +kernel
theorem dX5_setLaw_6 : decode cX5_setLaw 6 = .ok (.iload_n 2, 1) := by decide +kernel
theorem dX5_setLaw_7 : decode cX5_setLaw 7 = .ok (.putfield 67, 3) := by decide +kernel
theorem dX5_setLaw_10 : decode cX5_setLaw 10 = .ok (.aload_n 0, 1) := by decide +kernel
theorem dX5_setLaw_11 : decode cX5_setLaw 11 = .ok (.iconst 0, 1) := by decide +kernel
theorem dX5_setLaw_12 : decode cX5_setLaw 12 = .ok (.putfield 70, 3) := by decide +kernel
theorem dX5_setLaw_15 : decode cX5_setLaw 15 = .ok (.iconst 0, 1) := by decide +kernel
theorem dX5_setLaw_16 : decode cX5_setLaw 16 = .ok (.istore_n 3, 1) := by decide +kernel
theorem dX5_setLaw_17 : decode cX5_setLaw 17 = .ok (.iload_n 3, 1) := by decide +kernel
theorem dX5_setLaw_18 : decode cX5_setLaw 18 = .ok (.aload_n 0, 1) := by decide +kernel
theorem dX5_setLaw_19 : decode cX5_setLaw 19 = .ok (.getfield 38, 3) := by decide +kernel
theorem dX5_setLaw_22 : decode cX5_setLaw 22 = .ok (.getfield 42, 3) := by decide +kernel
theorem dX5_setLaw_25 : decode cX5_setLaw 25 = .ok (.if_icmp .ge 39, 3) := by decide +kernel
theorem dX5_setLaw_28 : decode cX5_setLaw 28 = .ok (.aload_n 0, 1) := by decide +kernel
theorem dX5_setLaw_29 : decode cX5_setLaw 29 = .ok (.getfield 29, 3) := by decide +kernel
theorem dX5_setLaw_32 : decode cX5_setLaw 32 = .ok (.iload_n 3, 1) := by decide +kernel
theorem dX5_setLaw_33 : decode cX5_setLaw 33 = .ok (.aload_n 0, 1) := by decide +kernel
theorem dX5_setLaw_34 : decode cX5_setLaw 34 = .ok (.iload_n 3, 1) := by decide +kernel
theorem dX5_setLaw_35 : decode cX5_setLaw 35 = .ok (.invokevirtual 73, 3) := by decide +kernel
theorem dX5_setLaw_38 : decode cX5_setLaw 38 = .ok (.bastore, 1) := by decide +kernel
theorem dX5_setLaw_39 : decode cX5_setLaw 39 = .ok (.aload_n 0, 1) := by decide +kernel
theorem dX5_setLaw_40 : decode cX5_setLaw 40 = .ok (.getfield 29, 3) := by decide +kernel
theorem dX5_setLaw_43 : decode cX5_setLaw 43 = .ok (.iload_n 3, 1) := by decide +kernel
theorem dX5_setLaw_44 : decode cX5_setLaw 44 = .ok (.baload, 1) := by decide +kernel
theorem dX5_setLaw_45 : decode cX5_setLaw 45 = .ok (.ifCond .eq 13, 3) := by decide +kernel
theorem dX5_setLaw_48 : decode cX5_setLaw 48 = .ok (.aload_n 0, 1) := by decide +kernel
theorem dX5_setLaw_49 : decode cX5_setLaw 49 = .ok (.dup, 1) := by decide +kernel
theorem dX5_setLaw_50 : decode cX5_setLaw 50 = .ok (.getfield 70, 3) := by decide +kernel
theorem dX5_setLaw_53 : decode cX5_setLaw 53 = .ok (.iconst 1, 1) := by decide +kernel
theorem dX5_setLaw_54 : decode cX5_setLaw 54 = .ok (.iadd, 1) := by decide +kernel
theorem dX5_setLaw_55 : decode cX5_setLaw 55 = .ok (.putfield 70, 3) := by decide +kernel
theorem dX5_setLaw_58 : decode cX5_setLaw 58 = .ok (.iinc 3 1, 3) := by decide +kernel
theorem dX5_setLaw_61 : decode cX5_setLaw 61 = .ok (.goto (-44), 3) := by decide +kernel
theorem dX5_setLaw_64 : decode cX5_setLaw 64 = .ok (.aload_n 0, 1) := by decide +kernel
theorem dX5_setLaw_65 : decode cX5_setLaw 65 = .ok (.invokevirtual 77, 3) := by decide +kernel
theorem dX5_setLaw_68 : decode cX5_setLaw 68 = .ok (.return_, 1) := by decide +kernel
theorem dX5_isLawful_0 : decode cX5_isLawful 0 = .ok (.aload_n 0, 1) := by decide +kernel
theorem dX5_isLawful_1 : decode cX5_isLawful 1 = .ok (.getfield 64, 3) := by decide +kernel
theorem dX5_isLawful_4 : decode cX5_isLawful 4 = .ok (.tableswitch 73 1 3 #[28, 45, 66], 28) := by decide +kernel
theorem dX5_isLawful_32 : decode cX5_isLawful 32 = .ok (.aload_n 0, 1) := by decide +kernel
theorem dX5_isLawful_33 : decode cX5_isLawful 33 = .ok (.getfield 38, 3) := by decide +kernel
theorem dX5_isLawful_36 : decode cX5_isLawful 36 = .ok (.iload_n 1, 1) := by decide +kernel
theorem dX5_isLawful_37 : decode cX5_isLawful 37 = .ok (.invokevirtual 80, 3) := by decide +kernel
theorem dX5_isLawful_40 : decode cX5_isLawful 40 = .ok (.ifCond .ne 7, 3) := by decide +kernel
theorem dX5_isLawful_43 : decode cX5_isLawful 43 = .ok (.iconst 1, 1) := by decide +kernel
theorem dX5_isLawful_44 : decode cX5_isLawful 44 = .ok (.goto 4, 3) := by decide +kernel
theorem dX5_isLawful_47 : decode cX5_isLawful 47 = .ok (.iconst 0, 1) := by decide +kernel
theorem dX5_isLawful_48 : decode cX5_isLawful 48 = .ok (.ireturn, 1) := by decide +kernel
theorem dX5_isLawful_49 : decode cX5_isLawful 49 = .ok (.aload_n 0, 1) := by decide +kernel
theorem dX5_isLawful_50 : decode cX5_isLawful 50 = .ok (.getfield 38, 3) := by decide +kernel
theorem dX5_isLawful_53 : decode cX5_isLawful 53 = .ok (.iload_n 1, 1) := by decide +kernel
theorem dX5_isLawful_54 : decode cX5_isLawful 54 = .ok (.invokevirtual 83, 3) := by decide +kernel
theorem dX5_isLawful_57 : decode cX5_isLawful 57 = .ok (.aload_n 0, 1) := by decide +kernel
theorem dX5_isLawful_58 : decode cX5_isLawful 58 = .ok (.getfield 67, 3) := by decide +kernel
theorem dX5_isLawful_61 : decode cX5_isLawful 61 = .ok (.if_icmp .ne 7, 3) := by decide +kernel
theorem dX5_isLawful_64 : decode cX5_isLawful 64 = .ok (.iconst 1, 1) := by decide +kernel
theorem dX5_isLawful_65 : decode cX5_isLawful 65 = .ok (.goto 4, 3) := by decide +kernel
theorem dX5_isLawful_68 : decode cX5_isLawful 68 = .ok (.iconst 0, 1) := by decide +kernel
theorem dX5_isLawful_69 : decode cX5_isLawful 69 = .ok (.ireturn, 1) := by decide +kernel
theorem dX5_isLawful_70 : decode cX5_isLawful 70 = .ok (.aload_n 0, 1) := by decide +kernel
theorem dX5_isLawful_71 : decode cX5_isLawful 71 = .ok (.getfield 25, 3) := by decide +kernel
theorem dX5_isLawful_74 : decode cX5_isLawful 74 = .ok (.iload_n 1, 1) := by decide +kernel
theorem dX5_isLawful_75 : decode cX5_isLawful 75 = .ok (.baload, 1) := by decide +kernel
theorem dX5_isLawful_76 : decode cX5_isLawful 76 = .ok (.ireturn, 1) := by decide +kernel
theorem dX5_isLawful_77 : decode cX5_isLawful 77 = .ok (.iconst 1, 1) := by decide +kernel
theorem dX5_isLawful_78 : decode cX5_isLawful 78 = .ok (.ireturn, 1) := by decide +kernel
theorem dX5_addToList_0 : decode cX5_addToList 0 = .ok (.aload_n 0, 1) := by decide +kernel
theorem dX5_addToList_1 : decode cX5_addToList 1 = .ok (.getfield 25, 3) := by decide +kernel
theorem dX5_addToList_4 : decode cX5_addToList 4 = .ok (.iload_n 1, 1) := by decide +kernel
theorem dX5_addToList_5 : decode cX5_addToList 5 = .ok (.iconst 1, 1) := by decide +kernel
theorem dX5_addToList_6 : decode cX5_addToList 6 = .ok (.bastore, 1) := by decide +kernel
theorem dX5_addToList_7 : decode cX5_addToList 7 = .ok (.aload_n 0, 1) := by decide +kernel
theorem dX5_addToList_8 : decode cX5_addToList 8 = .ok (.dup, 1) := by decide +kernel
theorem dX5_addToList_9 : decode cX5_addToList 9 = .ok (.getfield 48, 3) := by decide +kernel
theorem dX5_addToList_12 : decode cX5_addToList 12 = .ok (.iconst 1, 1) := by decide +kernel
theorem dX5_addToList_13 : decode cX5_addToList 13 = .ok (.iadd, 1) := by decide +kernel
theorem dX5_addToList_14 : decode cX5_addToList 14 = .ok (.putfield 48, 3) := by decide +kernel
theorem dX5_addToList_17 : decode cX5_addToList 17 = .ok (.aload_n 0, 1) := by decide +kernel
theorem dX5_addToList_18 : decode cX5_addToList 18 = .ok (.getfield 64, 3) := by decide +kernel
theorem dX5_addToList_21 : decode cX5_addToList 21 = .ok (.iconst 3, 1) := by decide +kernel
theorem dX5_addToList_22 : decode cX5_addToList 22 = .ok (.if_icmp .ne 24, 3) := by decide +kernel
theorem dX5_addToList_25 : decode cX5_addToList 25 = .ok (.aload_n 0, 1) := by decide +kernel
theorem dX5_addToList_26 : decode cX5_addToList 26 = .ok (.getfield 29, 3) := by decide +kernel
theorem dX5_addToList_29 : decode cX5_addToList 29 = .ok (.iload_n 1, 1) := by decide +kernel
theorem dX5_addToList_30 : decode cX5_addToList 30 = .ok (.iconst 1, 1) := by decide +kernel
theorem dX5_addToList_31 : decode cX5_addToList 31 = .ok (.bastore, 1) := by decide +kernel
theorem dX5_addToList_32 : decode cX5_addToList 32 = .ok (.aload_n 0, 1) := by decide +kernel
theorem dX5_addToList_33 : decode cX5_addToList 33 = .ok (.dup, 1) := by decide +kernel
theorem dX5_addToList_34 : decode cX5_addToList 34 = .ok (.getfield 70, 3) := by decide +kernel
theorem dX5_addToList_37 : decode cX5_addToList 37 = .ok (.iconst 1, 1) := by decide +kernel
theorem dX5_addToList_38 : decode cX5_addToList 38 = .ok (.iadd, 1) := by decide +kernel
theorem dX5_addToList_39 : decode cX5_addToList 39 = .ok (.putfield 70, 3) := by decide +kernel
theorem dX5_addToList_42 : decode cX5_addToList 42 = .ok (.aload_n 0, 1) := by decide +kernel
theorem dX5_addToList_43 : decode cX5_addToList 43 = .ok (.invokevirtual 77, 3) := by decide +kernel
theorem dX5_addToList_46 : decode cX5_addToList 46 = .ok (.return_, 1) := by decide +kernel
theorem dX5_setLies_0 : decode cX5_setLies 0 = .ok (.aload_n 0, 1) := by decide +kernel
theorem dX5_setLies_1 : decode cX5_setLies 1 = .ok (.iload_n 1, 1) := by decide +kernel
theorem dX5_setLies_2 : decode cX5_setLies 2 = .ok (.putfield 51, 3) := by decide +kernel
theorem dX5_setLies_5 : decode cX5_setLies 5 = .ok (.aload_n 0, 1) := by decide +kernel
theorem dX5_setLies_6 : decode cX5_setLies 6 = .ok (.invokevirtual 77, 3) := by decide +kernel
theorem dX5_setLies_9 : decode cX5_setLies 9 = .ok (.return_, 1) := by decide +kernel
theorem dX5_isLeft_0 : decode cX5_isLeft 0 = .ok (.aload_n 0, 1) := by decide +kernel
theorem dX5_isLeft_1 : decode cX5_isLeft 1 = .ok (.getfield 38, 3) := by decide +kernel
theorem dX5_isLeft_4 : decode cX5_isLeft 4 = .ok (.iload_n 1, 1) := by decide +kernel
theorem dX5_isLeft_5 : decode cX5_isLeft 5 = .ok (.invokevirtual 87, 3) := by decide +kernel
theorem dX5_isLeft_8 : decode cX5_isLeft 8 = .ok (.ifCond .eq 32, 3) := by decide +kernel
theorem dX5_isLeft_11 : decode cX5_isLeft 11 = .ok (.aload_n 0, 1) := by decide +kernel
theorem dX5_isLeft_12 : decode cX5_isLeft 12 = .ok (.getfield 29, 3) := by decide +kernel
theorem dX5_isLeft_15 : decode cX5_isLeft 15 = .ok (.iload_n 1, 1) := by decide +kernel
theorem dX5_isLeft_16 : decode cX5_isLeft 16 = .ok (.baload, 1) := by decide +kernel
theorem dX5_isLeft_17 : decode cX5_isLeft 17 = .ok (.ifCond .eq 23, 3) := by decide +kernel
theorem dX5_isLeft_20 : decode cX5_isLeft 20 = .ok (.aload_n 0, 1) := by decide +kernel
theorem dX5_isLeft_21 : decode cX5_isLeft 21 = .ok (.getfield 32, 3) := by decide +kernel
theorem dX5_isLeft_24 : decode cX5_isLeft 24 = .ok (.iload_n 1, 1) := by decide +kernel
theorem dX5_isLeft_25 : decode cX5_isLeft 25 = .ok (.iaload, 1) := by decide +kernel
theorem dX5_isLeft_26 : decode cX5_isLeft 26 = .ok (.invokestatic 90, 3) := by decide +kernel
theorem dX5_isLeft_29 : decode cX5_isLeft 29 = .ok (.aload_n 0, 1) := by decide +kernel
theorem dX5_isLeft_30 : decode cX5_isLeft 30 = .ok (.getfield 51, 3) := by decide +kernel
theorem dX5_isLeft_33 : decode cX5_isLeft 33 = .ok (.if_icmp .gt 7, 3) := by decide +kernel
theorem dX5_isLeft_36 : decode cX5_isLeft 36 = .ok (.iconst 1, 1) := by decide +kernel
theorem dX5_isLeft_37 : decode cX5_isLeft 37 = .ok (.goto 4, 3) := by decide +kernel
theorem dX5_isLeft_40 : decode cX5_isLeft 40 = .ok (.iconst 0, 1) := by decide +kernel
theorem dX5_isLeft_41 : decode cX5_isLeft 41 = .ok (.ireturn, 1) := by decide +kernel
theorem dX5_findLeft_0 : decode cX5_findLeft 0 = .ok (.aload_n 0, 1) := by decide +kernel
theorem dX5_findLeft_1 : decode cX5_findLeft 1 = .ok (.iconst 0, 1) := by decide +kernel
theorem dX5_findLeft_2 : decode cX5_findLeft 2 = .ok (.putfield 95, 3) := by decide +kernel
theorem dX5_findLeft_5 : decode cX5_findLeft 5 = .ok (.iconst 0, 1) := by decide +kernel
theorem dX5_findLeft_6 : decode cX5_findLeft 6 = .ok (.istore_n 1, 1) := by decide +kernel
theorem dX5_findLeft_7 : decode cX5_findLeft 7 = .ok (.iload_n 1, 1) := by decide +kernel
theorem dX5_findLeft_8 : decode cX5_findLeft 8 = .ok (.aload_n 0, 1) := by decide +kernel
theorem dX5_findLeft_9 : decode cX5_findLeft 9 = .ok (.getfield 38, 3) := by decide +kernel
theorem dX5_findLeft_12 : decode cX5_findLeft 12 = .ok (.getfield 42, 3) := by decide +kernel
theorem dX5_findLeft_15 : decode cX5_findLeft 15 = .ok (.if_icmp .ge 37, 3) := by decide +kernel
theorem dX5_findLeft_18 : decode cX5_findLeft 18 = .ok (.aload_n 0, 1) := by decide +kernel
theorem dX5_findLeft_19 : decode cX5_findLeft 19 = .ok (.iload_n 1, 1) := by decide +kernel
theorem dX5_findLeft_20 : decode cX5_findLeft 20 = .ok (.invokevirtual 98, 3) := by decide +kernel
theorem dX5_findLeft_23 : decode cX5_findLeft 23 = .ok (.ifCond .eq 23, 3) := by decide +kernel
theorem dX5_findLeft_26 : decode cX5_findLeft 26 = .ok (.aload_n 0, 1) := by decide +kernel
theorem dX5_findLeft_27 : decode cX5_findLeft 27 = .ok (.getfield 35, 3) := by decide +kernel
theorem dX5_findLeft_30 : decode cX5_findLeft 30 = .ok (.aload_n 0, 1) := by decide +kernel
theorem dX5_findLeft_31 : decode cX5_findLeft 31 = .ok (.getfield 95, 3) := by decide +kernel
theorem dX5_findLeft_34 : decode cX5_findLeft 34 = .ok (.iload_n 1, 1) := by decide +kernel
theorem dX5_findLeft_35 : decode cX5_findLeft 35 = .ok (.iastore, 1) := by decide +kernel
theorem dX5_findLeft_36 : decode cX5_findLeft 36 = .ok (.aload_n 0, 1) := by decide +kernel
theorem dX5_findLeft_37 : decode cX5_findLeft 37 = .ok (.dup, 1) := by decide +kernel
theorem dX5_findLeft_38 : decode cX5_findLeft 38 = .ok (.getfield 95, 3) := by decide +kernel
theorem dX5_findLeft_41 : decode cX5_findLeft 41 = .ok (.iconst 1, 1) := by decide +kernel
theorem dX5_findLeft_42 : decode cX5_findLeft 42 = .ok (.iadd, 1) := by decide +kernel
theorem dX5_findLeft_43 : decode cX5_findLeft 43 = .ok (.putfield 95, 3) := by decide +kernel
theorem dX5_findLeft_46 : decode cX5_findLeft 46 = .ok (.iinc 1 1, 3) := by decide +kernel
theorem dX5_findLeft_49 : decode cX5_findLeft 49 = .ok (.goto (-42), 3) := by decide +kernel
theorem dX5_findLeft_52 : decode cX5_findLeft 52 = .ok (.aload_n 0, 1) := by decide +kernel
theorem dX5_findLeft_53 : decode cX5_findLeft 53 = .ok (.dup, 1) := by decide +kernel
theorem dX5_findLeft_54 : decode cX5_findLeft 54 = .ok (.getfield 101, 3) := by decide +kernel
theorem dX5_findLeft_57 : decode cX5_findLeft 57 = .ok (.iconst 1, 1) := by decide +kernel
theorem dX5_findLeft_58 : decode cX5_findLeft 58 = .ok (.iadd, 1) := by decide +kernel
theorem dX5_findLeft_59 : decode cX5_findLeft 59 = .ok (.putfield 101, 3) := by decide +kernel
theorem dX5_findLeft_62 : decode cX5_findLeft 62 = .ok (.return_, 1) := by decide +kernel
theorem dX5_anyLeft_0 : decode cX5_anyLeft 0 = .ok (.iconst 0, 1) := by decide +kernel
theorem dX5_anyLeft_1 : decode cX5_anyLeft 1 = .ok (.istore_n 1, 1) := by decide +kernel
theorem dX5_anyLeft_2 : decode cX5_anyLeft 2 = .ok (.iload_n 1, 1) := by decide +kernel
theorem dX5_anyLeft_3 : decode cX5_anyLeft 3 = .ok (.aload_n 0, 1) := by decide +kernel
theorem dX5_anyLeft_4 : decode cX5_anyLeft 4 = .ok (.getfield 38, 3) := by decide +kernel
theorem dX5_anyLeft_7 : decode cX5_anyLeft 7 = .ok (.getfield 42, 3) := by decide +kernel
theorem dX5_anyLeft_10 : decode cX5_anyLeft 10 = .ok (.if_icmp .ge 19, 3) := by decide +kernel
theorem dX5_anyLeft_13 : decode cX5_anyLeft 13 = .ok (.aload_n 0, 1) := by decide +kernel
theorem dX5_anyLeft_14 : decode cX5_anyLeft 14 = .ok (.iload_n 1, 1) := by decide +kernel
theorem dX5_anyLeft_15 : decode cX5_anyLeft 15 = .ok (.invokevirtual 98, 3) := by decide +kernel
theorem dX5_anyLeft_18 : decode cX5_anyLeft 18 = .ok (.ifCond .eq 5, 3) := by decide +kernel
theorem dX5_anyLeft_21 : decode cX5_anyLeft 21 = .ok (.iconst 1, 1) := by decide +kernel
theorem dX5_anyLeft_22 : decode cX5_anyLeft 22 = .ok (.ireturn, 1) := by decide +kernel
theorem dX5_anyLeft_23 : decode cX5_anyLeft 23 = .ok (.iinc 1 1, 3) := by decide +kernel
theorem dX5_anyLeft_26 : decode cX5_anyLeft 26 = .ok (.goto (-24), 3) := by decide +kernel
theorem dX5_anyLeft_29 : decode cX5_anyLeft 29 = .ok (.iconst 0, 1) := by decide +kernel
theorem dX5_anyLeft_30 : decode cX5_anyLeft 30 = .ok (.ireturn, 1) := by decide +kernel
theorem dX5_accepts_0 : decode cX5_accepts 0 = .ok (.aload_n 0, 1) := by decide +kernel
theorem dX5_accepts_1 : decode cX5_accepts 1 = .ok (.aload_n 1, 1) := by decide +kernel
theorem dX5_accepts_2 : decode cX5_accepts 2 = .ok (.iload_n 2, 1) := by decide +kernel
theorem dX5_accepts_3 : decode cX5_accepts 3 = .ok (.invokevirtual 104, 3) := by decide +kernel
theorem dX5_accepts_6 : decode cX5_accepts 6 = .ok (.aload_n 0, 1) := by decide +kernel
theorem dX5_accepts_7 : decode cX5_accepts 7 = .ok (.invokevirtual 108, 3) := by decide +kernel
theorem dX5_accepts_10 : decode cX5_accepts 10 = .ok (.ifCond .ne 27, 3) := by decide +kernel
theorem dX5_accepts_13 : decode cX5_accepts 13 = .ok (.aload_n 0, 1) := by decide +kernel
theorem dX5_accepts_14 : decode cX5_accepts 14 = .ok (.aload_n 0, 1) := by decide +kernel
theorem dX5_accepts_15 : decode cX5_accepts 15 = .ok (.getfield 12, 3) := by decide +kernel
theorem dX5_accepts_18 : decode cX5_accepts 18 = .ok (.aload_n 0, 1) := by decide +kernel
theorem dX5_accepts_19 : decode cX5_accepts 19 = .ok (.aload_n 0, 1) := by decide +kernel
theorem dX5_accepts_20 : decode cX5_accepts 20 = .ok (.getfield 54, 3) := by decide +kernel
theorem dX5_accepts_23 : decode cX5_accepts 23 = .ok (.iconst 1, 1) := by decide +kernel
theorem dX5_accepts_24 : decode cX5_accepts 24 = .ok (.iadd, 1) := by decide +kernel
theorem dX5_accepts_25 : decode cX5_accepts 25 = .ok (.invokevirtual 112, 3) := by decide +kernel
theorem dX5_accepts_28 : decode cX5_accepts 28 = .ok (.putfield 57, 3) := by decide +kernel
theorem dX5_accepts_31 : decode cX5_accepts 31 = .ok (.aload_n 0, 1) := by decide +kernel
theorem dX5_accepts_32 : decode cX5_accepts 32 = .ok (.invokevirtual 116, 3) := by decide +kernel
theorem dX5_accepts_35 : decode cX5_accepts 35 = .ok (.iconst 0, 1) := by decide +kernel
theorem dX5_accepts_36 : decode cX5_accepts 36 = .ok (.ireturn, 1) := by decide +kernel
theorem dX5_accepts_37 : decode cX5_accepts 37 = .ok (.aload_n 1, 1) := by decide +kernel
theorem dX5_accepts_38 : decode cX5_accepts 38 = .ok (.getfield 119, 3) := by decide +kernel
theorem dX5_accepts_41 : decode cX5_accepts 41 = .ok (.iconst 0, 1) := by decide +kernel
theorem dX5_accepts_42 : decode cX5_accepts 42 = .ok (.aload_n 0, 1) := by decide +kernel
theorem dX5_accepts_43 : decode cX5_accepts 43 = .ok (.getfield 18, 3) := by decide +kernel
theorem dX5_accepts_46 : decode cX5_accepts 46 = .ok (.aload_n 0, 1) := by decide +kernel
theorem dX5_accepts_47 : decode cX5_accepts 47 = .ok (.getfield 54, 3) := by decide +kernel
theorem dX5_accepts_50 : decode cX5_accepts 50 = .ok (.iconst 5, 1) := by decide +kernel
theorem dX5_accepts_51 : decode cX5_accepts 51 = .ok (.imul, 1) := by decide +kernel
theorem dX5_accepts_52 : decode cX5_accepts 52 = .ok (.iconst 5, 1) := by decide +kernel
theorem dX5_accepts_53 : decode cX5_accepts 53 = .ok (.invokestatic 122, 3) := by decide +kernel
theorem dX5_accepts_56 : decode cX5_accepts 56 = .ok (.aload_n 0, 1) := by decide +kernel
theorem dX5_accepts_57 : decode cX5_accepts 57 = .ok (.getfield 22, 3) := by decide +kernel
theorem dX5_accepts_60 : decode cX5_accepts 60 = .ok (.aload_n 0, 1) := by decide +kernel
theorem dX5_accepts_61 : decode cX5_accepts 61 = .ok (.getfield 54, 3) := by decide +kernel
theorem dX5_accepts_64 : decode cX5_accepts 64 = .ok (.iload_n 2, 1) := by decide +kernel
theorem dX5_accepts_65 : decode cX5_accepts 65 = .ok (.iastore, 1) := by decide +kernel
theorem dX5_accepts_66 : decode cX5_accepts 66 = .ok (.aload_n 0, 1) := by decide +kernel
theorem dX5_accepts_67 : decode cX5_accepts 67 = .ok (.dup, 1) := by decide +kernel
theorem dX5_accepts_68 : decode cX5_accepts 68 = .ok (.getfield 54, 3) := by decide +kernel
theorem dX5_accepts_71 : decode cX5_accepts 71 = .ok (.iconst 1, 1) := by decide +kernel
theorem dX5_accepts_72 : decode cX5_accepts 72 = .ok (.iadd, 1) := by decide +kernel
theorem dX5_accepts_73 : decode cX5_accepts 73 = .ok (.putfield 54, 3) := by decide +kernel
theorem dX5_accepts_76 : decode cX5_accepts 76 = .ok (.aload_n 0, 1) := by decide +kernel
theorem dX5_accepts_77 : decode cX5_accepts 77 = .ok (.invokevirtual 77, 3) := by decide +kernel
theorem dX5_accepts_80 : decode cX5_accepts 80 = .ok (.iconst 1, 1) := by decide +kernel
theorem dX5_accepts_81 : decode cX5_accepts 81 = .ok (.ireturn, 1) := by decide +kernel
theorem dX5_takeBack_0 : decode cX5_takeBack 0 = .ok (.aload_n 0, 1) := by decide +kernel
theorem dX5_takeBack_1 : decode cX5_takeBack 1 = .ok (.dup, 1) := by decide +kernel
theorem dX5_takeBack_2 : decode cX5_takeBack 2 = .ok (.getfield 54, 3) := by decide +kernel
theorem dX5_takeBack_5 : decode cX5_takeBack 5 = .ok (.iconst 1, 1) := by decide +kernel
theorem dX5_takeBack_6 : decode cX5_takeBack 6 = .ok (.isub, 1) := by decide +kernel
theorem dX5_takeBack_7 : decode cX5_takeBack 7 = .ok (.putfield 54, 3) := by decide +kernel
theorem dX5_takeBack_10 : decode cX5_takeBack 10 = .ok (.aload_n 0, 1) := by decide +kernel
theorem dX5_takeBack_11 : decode cX5_takeBack 11 = .ok (.invokevirtual 116, 3) := by decide +kernel
theorem dX5_takeBack_14 : decode cX5_takeBack 14 = .ok (.aload_n 0, 1) := by decide +kernel
theorem dX5_takeBack_15 : decode cX5_takeBack 15 = .ok (.invokevirtual 77, 3) := by decide +kernel
theorem dX5_takeBack_18 : decode cX5_takeBack 18 = .ok (.return_, 1) := by decide +kernel
theorem dX5_markFalse_0 : decode cX5_markFalse 0 = .ok (.iconst 1, 1) := by decide +kernel
theorem dX5_markFalse_1 : decode cX5_markFalse 1 = .ok (.aload_n 0, 1) := by decide +kernel
theorem dX5_markFalse_2 : decode cX5_markFalse 2 = .ok (.getfield 54, 3) := by decide +kernel
theorem dX5_markFalse_5 : decode cX5_markFalse 5 = .ok (.ishl, 1) := by decide +kernel
theorem dX5_markFalse_6 : decode cX5_markFalse 6 = .ok (.istore_n 3, 1) := by decide +kernel
theorem dX5_markFalse_7 : decode cX5_markFalse 7 = .ok (.iconst 0, 1) := by decide +kernel
theorem dX5_markFalse_8 : decode cX5_markFalse 8 = .ok (.istore 4, 2) := by decide +kernel
theorem dX5_markFalse_10 : decode cX5_markFalse 10 = .ok (.iload 4, 2) := by decide +kernel
theorem dX5_markFalse_12 : decode cX5_markFalse 12 = .ok (.aload_n 0, 1) := by decide +kernel
theorem dX5_markFalse_13 : decode cX5_markFalse 13 = .ok (.getfield 38, 3) := by decide +kernel
theorem dX5_markFalse_16 : decode cX5_markFalse 16 = .ok (.getfield 42, 3) := by decide +kernel
theorem dX5_markFalse_19 : decode cX5_markFalse 19 = .ok (.if_icmp .ge 41, 3) := by decide +kernel
theorem dX5_markFalse_22 : decode cX5_markFalse 22 = .ok (.aload_n 0, 1) := by decide +kernel
theorem dX5_markFalse_23 : decode cX5_markFalse 23 = .ok (.getfield 38, 3) := by decide +kernel
theorem dX5_markFalse_26 : decode cX5_markFalse 26 = .ok (.aload_n 1, 1) := by decide +kernel
theorem dX5_markFalse_27 : decode cX5_markFalse 27 = .ok (.getfield 128, 3) := by decide +kernel
theorem dX5_markFalse_30 : decode cX5_markFalse 30 = .ok (.aload_n 1, 1) := by decide +kernel
theorem dX5_markFalse_31 : decode cX5_markFalse 31 = .ok (.getfield 131, 3) := by decide +kernel
theorem dX5_markFalse_34 : decode cX5_markFalse 34 = .ok (.iload 4, 2) := by decide +kernel
theorem dX5_markFalse_36 : decode cX5_markFalse 36 = .ok (.invokevirtual 134, 3) := by decide +kernel
theorem dX5_markFalse_39 : decode cX5_markFalse 39 = .ok (.iload_n 2, 1) := by decide +kernel
theorem dX5_markFalse_40 : decode cX5_markFalse 40 = .ok (.if_icmp .eq 14, 3) := by decide +kernel
theorem dX5_markFalse_43 : decode cX5_markFalse 43 = .ok (.aload_n 0, 1) := by decide +kernel
theorem dX5_markFalse_44 : decode cX5_markFalse 44 = .ok (.getfield 32, 3) := by decide +kernel
theorem dX5_markFalse_47 : decode cX5_markFalse 47 = .ok (.iload 4, 2) := by decide +kernel
theorem dX5_markFalse_49 : decode cX5_markFalse 49 = .ok (.dup2, 1) := by decide +kernel
theorem dX5_markFalse_50 : decode cX5_markFalse 50 = .ok (.iaload, 1) := by decide +kernel
theorem dX5_markFalse_51 : decode cX5_markFalse 51 = .ok (.iload_n 3, 1) := by decide +kernel
theorem dX5_markFalse_52 : decode cX5_markFalse 52 = .ok (.ior, 1) := by decide +kernel
theorem dX5_markFalse_53 : decode cX5_markFalse 53 = .ok (.iastore, 1) := by decide +kernel
theorem dX5_markFalse_54 : decode cX5_markFalse 54 = .ok (.iinc 4 1, 3) := by decide +kernel
theorem dX5_markFalse_57 : decode cX5_markFalse 57 = .ok (.goto (-47), 3) := by decide +kernel
theorem dX5_markFalse_60 : decode cX5_markFalse 60 = .ok (.return_, 1) := by decide +kernel
theorem dX5_unmark_0 : decode cX5_unmark 0 = .ok (.iconst 1, 1) := by decide +kernel
theorem dX5_unmark_1 : decode cX5_unmark 1 = .ok (.aload_n 0, 1) := by decide +kernel
theorem dX5_unmark_2 : decode cX5_unmark 2 = .ok (.getfield 54, 3) := by decide +kernel
theorem dX5_unmark_5 : decode cX5_unmark 5 = .ok (.ishl, 1) := by decide +kernel
theorem dX5_unmark_6 : decode cX5_unmark 6 = .ok (.iconst (-1), 1) := by decide +kernel
theorem dX5_unmark_7 : decode cX5_unmark 7 = .ok (.ixor, 1) := by decide +kernel
theorem dX5_unmark_8 : decode cX5_unmark 8 = .ok (.istore_n 1, 1) := by decide +kernel
theorem dX5_unmark_9 : decode cX5_unmark 9 = .ok (.iconst 0, 1) := by decide +kernel
theorem dX5_unmark_10 : decode cX5_unmark 10 = .ok (.istore_n 2, 1) := by decide +kernel
theorem dX5_unmark_11 : decode cX5_unmark 11 = .ok (.iload_n 2, 1) := by decide +kernel
theorem dX5_unmark_12 : decode cX5_unmark 12 = .ok (.aload_n 0, 1) := by decide +kernel
theorem dX5_unmark_13 : decode cX5_unmark 13 = .ok (.getfield 38, 3) := by decide +kernel
theorem dX5_unmark_16 : decode cX5_unmark 16 = .ok (.getfield 42, 3) := by decide +kernel
theorem dX5_unmark_19 : decode cX5_unmark 19 = .ok (.if_icmp .ge 19, 3) := by decide +kernel
theorem dX5_unmark_22 : decode cX5_unmark 22 = .ok (.aload_n 0, 1) := by decide +kernel
theorem dX5_unmark_23 : decode cX5_unmark 23 = .ok (.getfield 32, 3) := by decide +kernel
theorem dX5_unmark_26 : decode cX5_unmark 26 = .ok (.iload_n 2, 1) := by decide +kernel
theorem dX5_unmark_27 : decode cX5_unmark 27 = .ok (.dup2, 1) := by decide +kernel
theorem dX5_unmark_28 : decode cX5_unmark 28 = .ok (.iaload, 1) := by decide +kernel
theorem dX5_unmark_29 : decode cX5_unmark 29 = .ok (.iload_n 1, 1) := by decide +kernel
theorem dX5_unmark_30 : decode cX5_unmark 30 = .ok (.iand, 1) := by decide +kernel
theorem dX5_unmark_31 : decode cX5_unmark 31 = .ok (.iastore, 1) := by decide +kernel
theorem dX5_unmark_32 : decode cX5_unmark 32 = .ok (.iinc 2 1, 3) := by decide +kernel
theorem dX5_unmark_35 : decode cX5_unmark 35 = .ok (.goto (-24), 3) := by decide +kernel
theorem dX5_unmark_38 : decode cX5_unmark 38 = .ok (.return_, 1) := by decide +kernel
theorem dX5_leftWithFalse_0 : decode cX5_leftWithFalse 0 = .ok (.iconst 0, 1) := by decide +kernel
theorem dX5_leftWithFalse_1 : decode cX5_leftWithFalse 1 = .ok (.istore_n 2, 1) := by decide +kernel
theorem dX5_leftWithFalse_2 : decode cX5_leftWithFalse 2 = .ok (.iconst 0, 1) := by decide +kernel
theorem dX5_leftWithFalse_3 : decode cX5_leftWithFalse 3 = .ok (.istore_n 3, 1) := by decide +kernel
theorem dX5_leftWithFalse_4 : decode cX5_leftWithFalse 4 = .ok (.iload_n 3, 1) := by decide +kernel
theorem dX5_leftWithFalse_5 : decode cX5_leftWithFalse 5 = .ok (.aload_n 0, 1) := by decide +kernel
theorem dX5_leftWithFalse_6 : decode cX5_leftWithFalse 6 = .ok (.getfield 95, 3) := by decide +kernel
theorem dX5_leftWithFalse_9 : decode cX5_leftWithFalse 9 = .ok (.if_icmp .ge 27, 3) := by decide +kernel
theorem dX5_leftWithFalse_12 : decode cX5_leftWithFalse 12 = .ok (.iload_n 2, 1) := by decide +kernel
theorem dX5_leftWithFalse_13 : decode cX5_leftWithFalse 13 = .ok (.aload_n 0, 1) := by decide +kernel
theorem dX5_leftWithFalse_14 : decode cX5_leftWithFalse 14 = .ok (.getfield 32, 3) := by decide +kernel
theorem dX5_leftWithFalse_17 : decode cX5_leftWithFalse 17 = .ok (.aload_n 0, 1) := by decide +kernel
theorem dX5_leftWithFalse_18 : decode cX5_leftWithFalse 18 = .ok (.getfield 35, 3) := by decide +kernel
theorem dX5_leftWithFalse_21 : decode cX5_leftWithFalse 21 = .ok (.iload_n 3, 1) := by decide +kernel
theorem dX5_leftWithFalse_22 : decode cX5_leftWithFalse 22 = .ok (.iaload, 1) := by decide +kernel
theorem dX5_leftWithFalse_23 : decode cX5_leftWithFalse 23 = .ok (.iaload, 1) := by decide +kernel
theorem dX5_leftWithFalse_24 : decode cX5_leftWithFalse 24 = .ok (.iload_n 1, 1) := by decide +kernel
theorem dX5_leftWithFalse_25 : decode cX5_leftWithFalse 25 = .ok (.iushr, 1) := by decide +kernel
theorem dX5_leftWithFalse_26 : decode cX5_leftWithFalse 26 = .ok (.iconst 1, 1) := by decide +kernel
theorem dX5_leftWithFalse_27 : decode cX5_leftWithFalse 27 = .ok (.iand, 1) := by decide +kernel
theorem dX5_leftWithFalse_28 : decode cX5_leftWithFalse 28 = .ok (.iadd, 1) := by decide +kernel
theorem dX5_leftWithFalse_29 : decode cX5_leftWithFalse 29 = .ok (.istore_n 2, 1) := by decide +kernel
theorem dX5_leftWithFalse_30 : decode cX5_leftWithFalse 30 = .ok (.iinc 3 1, 3) := by decide +kernel
theorem dX5_leftWithFalse_33 : decode cX5_leftWithFalse 33 = .ok (.goto (-29), 3) := by decide +kernel
theorem dX5_leftWithFalse_36 : decode cX5_leftWithFalse 36 = .ok (.iload_n 2, 1) := by decide +kernel
theorem dX5_leftWithFalse_37 : decode cX5_leftWithFalse 37 = .ok (.ireturn, 1) := by decide +kernel
theorem dX6_init_0 : decode cX6_init 0 = .ok (.aload_n 0, 1) := by decide +kernel
theorem dX6_init_1 : decode cX6_init 1 = .ok (.invokespecial 3, 3) := by decide +kernel
theorem dX6_init_4 : decode cX6_init 4 = .ok (.aload_n 0, 1) := by decide +kernel
theorem dX6_init_5 : decode cX6_init 5 = .ok (.sipush 1024, 3) := by decide +kernel
theorem dX6_init_8 : decode cX6_init 8 = .ok (.newarray .boolean, 2) := by decide +kernel
theorem dX6_init_10 : decode cX6_init 10 = .ok (.putfield 9, 3) := by decide +kernel
theorem dX6_init_13 : decode cX6_init 13 = .ok (.aload_n 0, 1) := by decide +kernel
theorem dX6_init_14 : decode cX6_init 14 = .ok (.sipush 1024, 3) := by decide +kernel
theorem dX6_init_17 : decode cX6_init 17 = .ok (.newarray .int, 2) := by decide +kernel
theorem dX6_init_19 : decode cX6_init 19 = .ok (.putfield 15, 3) := by decide +kernel
theorem dX6_init_22 : decode cX6_init 22 = .ok (.return_, 1) := by decide +kernel
theorem dX6_leastQuarrel_0 : decode cX6_leastQuarrel 0 = .ok (.aload_n 0, 1) := by decide +kernel
theorem dX6_leastQuarrel_1 : decode cX6_leastQuarrel 1 = .ok (.aload_n 1, 1) := by decide +kernel
theorem dX6_leastQuarrel_2 : decode cX6_leastQuarrel 2 = .ok (.iload_n 2, 1) := by decide +kernel
theorem dX6_leastQuarrel_3 : decode cX6_leastQuarrel 3 = .ok (.invokevirtual 19, 3) := by decide +kernel
theorem dX6_leastQuarrel_6 : decode cX6_leastQuarrel 6 = .ok (.iconst 1, 1) := by decide +kernel
theorem dX6_leastQuarrel_7 : decode cX6_leastQuarrel 7 = .ok (.iload_n 2, 1) := by decide +kernel
theorem dX6_leastQuarrel_8 : decode cX6_leastQuarrel 8 = .ok (.ishl, 1) := by decide +kernel
theorem dX6_leastQuarrel_9 : decode cX6_leastQuarrel 9 = .ok (.istore_n 3, 1) := by decide +kernel
theorem dX6_leastQuarrel_10 : decode cX6_leastQuarrel 10 = .ok (.iconst 0, 1) := by decide +kernel
theorem dX6_leastQuarrel_11 : decode cX6_leastQuarrel 11 = .ok (.istore 4, 2) := by decide +kernel
theorem dX6_leastQuarrel_13 : decode cX6_leastQuarrel 13 = .ok (.iload 4, 2) := by decide +kernel
theorem dX6_leastQuarrel_15 : decode cX6_leastQuarrel 15 = .ok (.iload_n 2, 1) := by decide +kernel
theorem dX6_leastQuarrel_16 : decode cX6_leastQuarrel 16 = .ok (.if_icmp .gt 50, 3) := by decide +kernel
theorem dX6_leastQuarrel_19 : decode cX6_leastQuarrel 19 = .ok (.iconst 0, 1) := by decide +kernel
theorem dX6_leastQuarrel_20 : decode cX6_leastQuarrel 20 = .ok (.istore 5, 2) := by decide +kernel
theorem dX6_leastQuarrel_22 : decode cX6_leastQuarrel 22 = .ok (.iload 5, 2) := by decide +kernel
theorem dX6_leastQuarrel_24 : decode cX6_leastQuarrel 24 = .ok (.iload_n 3, 1) := by decide +kernel
theorem dX6_leastQuarrel_25 : decode cX6_leastQuarrel 25 = .ok (.if_icmp .ge 35, 3) := by decide +kernel
theorem dX6_leastQuarrel_28 : decode cX6_leastQuarrel 28 = .ok (.iload 5, 2) := by decide +kernel
theorem dX6_leastQuarrel_30 : decode cX6_leastQuarrel 30 = .ok (.invokestatic 23, 3) := by decide +kernel
theorem dX6_leastQuarrel_33 : decode cX6_leastQuarrel 33 = .ok (.iload 4, 2) := by decide +kernel
theorem dX6_leastQuarrel_35 : decode cX6_leastQuarrel 35 = .ok (.if_icmp .ne 19, 3) := by decide +kernel
theorem dX6_leastQuarrel_38 : decode cX6_leastQuarrel 38 = .ok (.aload_n 0, 1) := by decide +kernel
theorem dX6_leastQuarrel_39 : decode cX6_leastQuarrel 39 = .ok (.iload 5, 2) := by decide +kernel
theorem dX6_leastQuarrel_41 : decode cX6_leastQuarrel 41 = .ok (.aload_n 1, 1) := by decide +kernel
theorem dX6_leastQuarrel_42 : decode cX6_leastQuarrel 42 = .ok (.getfield 29, 3) := by decide +kernel
theorem dX6_leastQuarrel_45 : decode cX6_leastQuarrel 45 = .ok (.invokevirtual 35, 3) := by decide +kernel
theorem dX6_leastQuarrel_48 : decode cX6_leastQuarrel 48 = .ok (.ifCond .eq 6, 3) := by decide +kernel
theorem dX6_leastQuarrel_51 : decode cX6_leastQuarrel 51 = .ok (.iload 5, 2) := by decide +kernel
theorem dX6_leastQuarrel_53 : decode cX6_leastQuarrel 53 = .ok (.ireturn, 1) := by decide +kernel
theorem dX6_leastQuarrel_54 : decode cX6_leastQuarrel 54 = .ok (.iinc 5 1, 3) := by decide +kernel
theorem dX6_leastQuarrel_57 : decode cX6_leastQuarrel 57 = .ok (.goto (-35), 3) := by decide +kernel
theorem dX6_leastQuarrel_60 : decode cX6_leastQuarrel 60 = .ok (.iinc 4 1, 3) := by decide +kernel
theorem dX6_leastQuarrel_63 : decode cX6_leastQuarrel 63 = .ok (.goto (-50), 3) := by decide +kernel
theorem dX6_leastQuarrel_66 : decode cX6_leastQuarrel 66 = .ok (.iload_n 3, 1) := by decide +kernel
theorem dX6_leastQuarrel_67 : decode cX6_leastQuarrel 67 = .ok (.iconst 1, 1) := by decide +kernel
theorem dX6_leastQuarrel_68 : decode cX6_leastQuarrel 68 = .ok (.isub, 1) := by decide +kernel
theorem dX6_leastQuarrel_69 : decode cX6_leastQuarrel 69 = .ok (.ireturn, 1) := by decide +kernel
theorem dX6_gather_0 : decode cX6_gather 0 = .ok (.iconst 1, 1) := by decide +kernel
theorem dX6_gather_1 : decode cX6_gather 1 = .ok (.iload_n 2, 1) := by decide +kernel
theorem dX6_gather_2 : decode cX6_gather 2 = .ok (.ishl, 1) := by decide +kernel
theorem dX6_gather_3 : decode cX6_gather 3 = .ok (.istore_n 3, 1) := by decide +kernel
theorem dX6_gather_4 : decode cX6_gather 4 = .ok (.iconst 0, 1) := by decide +kernel
theorem dX6_gather_5 : decode cX6_gather 5 = .ok (.istore 4, 2) := by decide +kernel
theorem dX6_gather_7 : decode cX6_gather 7 = .ok (.iload 4, 2) := by decide +kernel
theorem dX6_gather_9 : decode cX6_gather 9 = .ok (.iload_n 3, 1) := by decide +kernel
theorem dX6_gather_10 : decode cX6_gather 10 = .ok (.if_icmp .ge 17, 3) := by decide +kernel
theorem dX6_gather_13 : decode cX6_gather 13 = .ok (.aload_n 0, 1) := by decide +kernel
theorem dX6_gather_14 : decode cX6_gather 14 = .ok (.getfield 9, 3) := by decide +kernel
theorem dX6_gather_17 : decode cX6_gather 17 = .ok (.iload 4, 2) := by decide +kernel
theorem dX6_gather_19 : decode cX6_gather 19 = .ok (.iconst 0, 1) := by decide +kernel
theorem dX6_gather_20 : decode cX6_gather 20 = .ok (.bastore, 1) := by decide +kernel
theorem dX6_gather_21 : decode cX6_gather 21 = .ok (.iinc 4 1, 3) := by decide +kernel
theorem dX6_gather_24 : decode cX6_gather 24 = .ok (.goto (-17), 3) := by decide +kernel
theorem dX6_gather_27 : decode cX6_gather 27 = .ok (.aload_n 0, 1) := by decide +kernel
theorem dX6_gather_28 : decode cX6_gather 28 = .ok (.iconst 0, 1) := by decide +kernel
theorem dX6_gather_29 : decode cX6_gather 29 = .ok (.putfield 39, 3) := by decide +kernel
theorem dX6_gather_32 : decode cX6_gather 32 = .ok (.iconst 0, 1) := by decide +kernel
theorem dX6_gather_33 : decode cX6_gather 33 = .ok (.istore 4, 2) := by decide +kernel
theorem dX6_gather_35 : decode cX6_gather 35 = .ok (.iload 4, 2) := by decide +kernel
theorem dX6_gather_37 : decode cX6_gather 37 = .ok (.aload_n 1, 1) := by decide +kernel
theorem dX6_gather_38 : decode cX6_gather 38 = .ok (.getfield 42, 3) := by decide +kernel
theorem dX6_gather_41 : decode cX6_gather 41 = .ok (.getfield 46, 3) := by decide +kernel
theorem dX6_gather_44 : decode cX6_gather 44 = .ok (.if_icmp .ge 67, 3) := by decide +kernel
theorem dX6_gather_47 : decode cX6_gather 47 = .ok (.aload_n 1, 1) := by decide +kernel
theorem dX6_gather_48 : decode cX6_gather 48 = .ok (.getfield 51, 3) := by decide +kernel
theorem dX6_gather_51 : decode cX6_gather 51 = .ok (.iload 4, 2) := by decide +kernel
theorem dX6_gather_53 : decode cX6_gather 53 = .ok (.iaload, 1) := by decide +kernel
theorem dX6_gather_54 : decode cX6_gather 54 = .ok (.istore 5, 2) := by decide +kernel
theorem dX6_gather_56 : decode cX6_gather 56 = .ok (.aload_n 1, 1) := by decide +kernel
theorem dX6_gather_57 : decode cX6_gather 57 = .ok (.getfield 54, 3) := by decide +kernel
theorem dX6_gather_60 : decode cX6_gather 60 = .ok (.iload 4, 2) := by decide +kernel
theorem dX6_gather_62 : decode cX6_gather 62 = .ok (.baload, 1) := by decide +kernel
theorem dX6_gather_63 : decode cX6_gather 63 = .ok (.ifCond .eq 42, 3) := by decide +kernel
theorem dX6_gather_66 : decode cX6_gather 66 = .ok (.aload_n 0, 1) := by decide +kernel
theorem dX6_gather_67 : decode cX6_gather 67 = .ok (.getfield 9, 3) := by decide +kernel
theorem dX6_gather_70 : decode cX6_gather 70 = .ok (.iload 5, 2) := by decide +kernel
theorem dX6_gather_72 : decode cX6_gather 72 = .ok (.baload, 1) := by decide +kernel
theorem dX6_gather_73 : decode cX6_gather 73 = .ok (.ifCond .ne 32, 3) := by decide +kernel
theorem dX6_gather_76 : decode cX6_gather 76 = .ok (.aload_n 0, 1) := by decide +kernel
theorem dX6_gather_77 : decode cX6_gather 77 = .ok (.getfield 9, 3) := by decide +kernel
theorem dX6_gather_80 : decode cX6_gather 80 = .ok (.iload 5, 2) := by decide +kernel
theorem dX6_gather_82 : decode cX6_gather 82 = .ok (.iconst 1, 1) := by decide +kernel
theorem dX6_gather_83 : decode cX6_gather 83 = .ok (.bastore, 1) := by decide +kernel
theorem dX6_gather_84 : decode cX6_gather 84 = .ok (.aload_n 0, 1) := by decide +kernel
theorem dX6_gather_85 : decode cX6_gather 85 = .ok (.getfield 15, 3) := by decide +kernel
theorem dX6_gather_88 : decode cX6_gather 88 = .ok (.aload_n 0, 1) := by decide +kernel
theorem dX6_gather_89 : decode cX6_gather 89 = .ok (.getfield 39, 3) := by decide +kernel
theorem dX6_gather_92 : decode cX6_gather 92 = .ok (.iload 5, 2) := by decide +kernel
theorem dX6_gather_94 : decode cX6_gather 94 = .ok (.iastore, 1) := by decide +kernel
theorem dX6_gather_95 : decode cX6_gather 95 = .ok (.aload_n 0, 1) := by decide +kernel
theorem dX6_gather_96 : decode cX6_gather 96 = .ok (.dup, 1) := by decide +kernel
theorem dX6_gather_97 : decode cX6_gather 97 = .ok (.getfield 39, 3) := by decide +kernel
theorem dX6_gather_100 : decode cX6_gather 100 = .ok (.iconst 1, 1) := by decide +kernel
theorem dX6_gather_101 : decode cX6_gather 101 = .ok (.iadd, 1) := by decide +kernel
theorem dX6_gather_102 : decode cX6_gather 102 = .ok (.putfield 39, 3) := by decide +kernel
theorem dX6_gather_105 : decode cX6_gather 105 = .ok (.iinc 4 1, 3) := by decide +kernel
theorem dX6_gather_108 : decode cX6_gather 108 = .ok (.goto (-73), 3) := by decide +kernel
theorem dX6_gather_111 : decode cX6_gather 111 = .ok (.return_, 1) := by decide +kernel
theorem dX6_isQuarrel_0 : decode cX6_isQuarrel 0 = .ok (.iconst 0, 1) := by decide +kernel
theorem dX6_isQuarrel_1 : decode cX6_isQuarrel 1 = .ok (.istore_n 3, 1) := by decide +kernel
theorem dX6_isQuarrel_2 : decode cX6_isQuarrel 2 = .ok (.iload_n 3, 1) := by decide +kernel
theorem dX6_isQuarrel_3 : decode cX6_isQuarrel 3 = .ok (.aload_n 0, 1) := by decide +kernel
theorem dX6_isQuarrel_4 : decode cX6_isQuarrel 4 = .ok (.getfield 39, 3) := by decide +kernel
theorem dX6_isQuarrel_7 : decode cX6_isQuarrel 7 = .ok (.if_icmp .ge 31, 3) := by decide +kernel
theorem dX6_isQuarrel_10 : decode cX6_isQuarrel 10 = .ok (.aload_n 0, 1) := by decide +kernel
theorem dX6_isQuarrel_11 : decode cX6_isQuarrel 11 = .ok (.getfield 15, 3) := by decide +kernel
theorem dX6_isQuarrel_14 : decode cX6_isQuarrel 14 = .ok (.iload_n 3, 1) := by decide +kernel
theorem dX6_isQuarrel_15 : decode cX6_isQuarrel 15 = .ok (.iaload, 1) := by decide +kernel
theorem dX6_isQuarrel_16 : decode cX6_isQuarrel 16 = .ok (.iload_n 1, 1) := by decide +kernel
theorem dX6_isQuarrel_17 : decode cX6_isQuarrel 17 = .ok (.iand, 1) := by decide +kernel
theorem dX6_isQuarrel_18 : decode cX6_isQuarrel 18 = .ok (.invokestatic 23, 3) := by decide +kernel
theorem dX6_isQuarrel_21 : decode cX6_isQuarrel 21 = .ok (.iload_n 2, 1) := by decide +kernel
theorem dX6_isQuarrel_22 : decode cX6_isQuarrel 22 = .ok (.if_icmp .gt 10, 3) := by decide +kernel
theorem dX6_isQuarrel_25 : decode cX6_isQuarrel 25 = .ok (.aload_n 0, 1) := by decide +kernel
theorem dX6_isQuarrel_26 : decode cX6_isQuarrel 26 = .ok (.iload_n 3, 1) := by decide +kernel
theorem dX6_isQuarrel_27 : decode cX6_isQuarrel 27 = .ok (.invokevirtual 57, 3) := by decide +kernel
theorem dX6_isQuarrel_30 : decode cX6_isQuarrel 30 = .ok (.iconst 0, 1) := by decide +kernel
theorem dX6_isQuarrel_31 : decode cX6_isQuarrel 31 = .ok (.ireturn, 1) := by decide +kernel
theorem dX6_isQuarrel_32 : decode cX6_isQuarrel 32 = .ok (.iinc 3 1, 3) := by decide +kernel
theorem dX6_isQuarrel_35 : decode cX6_isQuarrel 35 = .ok (.goto (-33), 3) := by decide +kernel
theorem dX6_isQuarrel_38 : decode cX6_isQuarrel 38 = .ok (.iconst 1, 1) := by decide +kernel
theorem dX6_isQuarrel_39 : decode cX6_isQuarrel 39 = .ok (.ireturn, 1) := by decide +kernel
theorem dX6_bringForward_0 : decode cX6_bringForward 0 = .ok (.aload_n 0, 1) := by decide +kernel
theorem dX6_bringForward_1 : decode cX6_bringForward 1 = .ok (.getfield 15, 3) := by decide +kernel
theorem dX6_bringForward_4 : decode cX6_bringForward 4 = .ok (.iload_n 1, 1) := by decide +kernel
theorem dX6_bringForward_5 : decode cX6_bringForward 5 = .ok (.iaload, 1) := by decide +kernel
theorem dX6_bringForward_6 : decode cX6_bringForward 6 = .ok (.istore_n 2, 1) := by decide +kernel
theorem dX6_bringForward_7 : decode cX6_bringForward 7 = .ok (.aload_n 0, 1) := by decide +kernel
theorem dX6_bringForward_8 : decode cX6_bringForward 8 = .ok (.getfield 15, 3) := by decide +kernel
theorem dX6_bringForward_11 : decode cX6_bringForward 11 = .ok (.iload_n 1, 1) := by decide +kernel
theorem dX6_bringForward_12 : decode cX6_bringForward 12 = .ok (.aload_n 0, 1) := by decide +kernel
theorem dX6_bringForward_13 : decode cX6_bringForward 13 = .ok (.getfield 15, 3) := by decide +kernel
theorem dX6_bringForward_16 : decode cX6_bringForward 16 = .ok (.iconst 0, 1) := by decide +kernel
theorem dX6_bringForward_17 : decode cX6_bringForward 17 = .ok (.iaload, 1) := by decide +kernel
theorem dX6_bringForward_18 : decode cX6_bringForward 18 = .ok (.iastore, 1) := by decide +kernel
theorem dX6_bringForward_19 : decode cX6_bringForward 19 = .ok (.aload_n 0, 1) := by decide +kernel
theorem dX6_bringForward_20 : decode cX6_bringForward 20 = .ok (.getfield 15, 3) := by decide +kernel
theorem dX6_bringForward_23 : decode cX6_bringForward 23 = .ok (.iconst 0, 1) := by decide +kernel
theorem dX6_bringForward_24 : decode cX6_bringForward 24 = .ok (.iload_n 2, 1) := by decide +kernel
theorem dX6_bringForward_25 : decode cX6_bringForward 25 = .ok (.iastore, 1) := by decide +kernel
theorem dX6_bringForward_26 : decode cX6_bringForward 26 = .ok (.return_, 1) := by decide +kernel
theorem dX7_init_0 : decode cX7_init 0 = .ok (.aload_n 0, 1) := by decide +kernel
theorem dX7_init_1 : decode cX7_init 1 = .ok (.invokespecial 3, 3) := by decide +kernel
theorem dX7_init_4 : decode cX7_init 4 = .ok (.aload_n 0, 1) := by decide +kernel
theorem dX7_init_5 : decode cX7_init 5 = .ok (.bipush 60, 2) := by decide +kernel
theorem dX7_init_7 : decode cX7_init 7 = .ok (.newarray .int, 2) := by decide +kernel
theorem dX7_init_9 : decode cX7_init 9 = .ok (.putfield 9, 3) := by decide +kernel
theorem dX7_init_12 : decode cX7_init 12 = .ok (.aload_n 0, 1) := by decide +kernel
theorem dX7_init_13 : decode cX7_init 13 = .ok (.iconst 0, 1) := by decide +kernel
theorem dX7_init_14 : decode cX7_init 14 = .ok (.putfield 15, 3) := by decide +kernel
theorem dX7_init_17 : decode cX7_init 17 = .ok (.return_, 1) := by decide +kernel
theorem dX7_holdRow_0 : decode cX7_holdRow 0 = .ok (.aload_n 0, 1) := by decide +kernel
theorem dX7_holdRow_1 : decode cX7_holdRow 1 = .ok (.iload_n 1, 1) := by decide +kernel
theorem dX7_holdRow_2 : decode cX7_holdRow 2 = .ok (.putfield 15, 3) := by decide +kernel
theorem dX7_holdRow_5 : decode cX7_holdRow 5 = .ok (.aload_n 0, 1) := by decide +kernel
theorem dX7_holdRow_6 : decode cX7_holdRow 6 = .ok (.iload_n 2, 1) := by decide +kernel
theorem dX7_holdRow_7 : decode cX7_holdRow 7 = .ok (.putfield 19, 3) := by decide +kernel
theorem dX7_holdRow_10 : decode cX7_holdRow 10 = .ok (.aload_n 0, 1) := by decide +kernel
theorem dX7_holdRow_11 : decode cX7_holdRow 11 = .ok (.getfield 9, 3) := by decide +kernel
theorem dX7_holdRow_14 : decode cX7_holdRow 14 = .ok (.iconst 0, 1) := by decide +kernel
theorem dX7_holdRow_15 : decode cX7_holdRow 15 = .ok (.invokestatic 22, 3) := by decide +kernel
theorem dX7_holdRow_18 : decode cX7_holdRow 18 = .ok (.return_, 1) := by decide +kernel
theorem dX7_holdGuess_0 : decode cX7_holdGuess 0 = .ok (.aload_n 0, 1) := by decide +kernel
theorem dX7_holdGuess_1 : decode cX7_holdGuess 1 = .ok (.iconst 4, 1) := by decide +kernel
theorem dX7_holdGuess_2 : decode cX7_holdGuess 2 = .ok (.putfield 15, 3) := by decide +kernel
theorem dX7_holdGuess_5 : decode cX7_holdGuess 5 = .ok (.aload_n 0, 1) := by decide +kernel
theorem dX7_holdGuess_6 : decode cX7_holdGuess 6 = .ok (.iload_n 2, 1) := by decide +kernel
theorem dX7_holdGuess_7 : decode cX7_holdGuess 7 = .ok (.putfield 19, 3) := by decide +kernel
theorem dX7_holdGuess_10 : decode cX7_holdGuess 10 = .ok (.aload_n 0, 1) := by decide +kernel
theorem dX7_holdGuess_11 : decode cX7_holdGuess 11 = .ok (.iload_n 3, 1) := by decide +kernel
theorem dX7_holdGuess_12 : decode cX7_holdGuess 12 = .ok (.putfield 28, 3) := by decide +kernel
theorem dX7_holdGuess_15 : decode cX7_holdGuess 15 = .ok (.aload_n 1, 1) := by decide +kernel
theorem dX7_holdGuess_16 : decode cX7_holdGuess 16 = .ok (.getfield 31, 3) := by decide +kernel
theorem dX7_holdGuess_19 : decode cX7_holdGuess 19 = .ok (.iconst 0, 1) := by decide +kernel
theorem dX7_holdGuess_20 : decode cX7_holdGuess 20 = .ok (.aload_n 0, 1) := by decide +kernel
theorem dX7_holdGuess_21 : decode cX7_holdGuess 21 = .ok (.getfield 9, 3) := by decide +kernel
theorem dX7_holdGuess_24 : decode cX7_holdGuess 24 = .ok (.iconst 0, 1) := by decide +kernel
theorem dX7_holdGuess_25 : decode cX7_holdGuess 25 = .ok (.iload_n 2, 1) := by decide +kernel
theorem dX7_holdGuess_26 : decode cX7_holdGuess 26 = .ok (.invokestatic 36, 3) := by decide +kernel
theorem dX7_holdGuess_29 : decode cX7_holdGuess 29 = .ok (.return_, 1) := by decide +kernel
theorem dX7_whyNoRow_0 : decode cX7_whyNoRow 0 = .ok (.aload_n 0, 1) := by decide +kernel
theorem dX7_whyNoRow_1 : decode cX7_whyNoRow 1 = .ok (.getfield 15, 3) := by decide +kernel
theorem dX7_whyNoRow_4 : decode cX7_whyNoRow 4 = .ok (.ifCond .ne 6, 3) := by decide +kernel
theorem dX7_whyNoRow_7 : decode cX7_whyNoRow 7 = .ok (.bipush (-11), 2) := by decide +kernel
theorem dX7_whyNoRow_9 : decode cX7_whyNoRow 9 = .ok (.ireturn, 1) := by decide +kernel
theorem dX7_whyNoRow_10 : decode cX7_whyNoRow 10 = .ok (.aload_n 0, 1) := by decide +kernel
theorem dX7_whyNoRow_11 : decode cX7_whyNoRow 11 = .ok (.getfield 15, 3) := by decide +kernel
theorem dX7_whyNoRow_14 : decode cX7_whyNoRow 14 = .ok (.iconst 4, 1) := by decide +kernel
theorem dX7_whyNoRow_15 : decode cX7_whyNoRow 15 = .ok (.if_icmp .ne 8, 3) := by decide +kernel
theorem dX7_whyNoRow_18 : decode cX7_whyNoRow 18 = .ok (.bipush (-12), 2) := by decide +kernel
theorem dX7_whyNoRow_20 : decode cX7_whyNoRow 20 = .ok (.goto 4, 3) := by decide +kernel
theorem dX7_whyNoRow_23 : decode cX7_whyNoRow 23 = .ok (.iconst 0, 1) := by decide +kernel
theorem dX7_whyNoRow_24 : decode cX7_whyNoRow 24 = .ok (.ireturn, 1) := by decide +kernel
theorem dX7_whyNoGuess_0 : decode cX7_whyNoGuess 0 = .ok (.aload_n 0, 1) := by decide +kernel
theorem dX7_whyNoGuess_1 : decode cX7_whyNoGuess 1 = .ok (.getfield 15, 3) := by decide +kernel
theorem dX7_whyNoGuess_4 : decode cX7_whyNoGuess 4 = .ok (.ifCond .ne 6, 3) := by decide +kernel
theorem dX7_whyNoGuess_7 : decode cX7_whyNoGuess 7 = .ok (.bipush (-11), 2) := by decide +kernel
theorem dX7_whyNoGuess_9 : decode cX7_whyNoGuess 9 = .ok (.ireturn, 1) := by decide +kernel
theorem dX7_whyNoGuess_10 : decode cX7_whyNoGuess 10 = .ok (.aload_n 0, 1) := by decide +kernel
theorem dX7_whyNoGuess_11 : decode cX7_whyNoGuess 11 = .ok (.getfield 15, 3) := by decide +kernel
theorem dX7_whyNoGuess_14 : decode cX7_whyNoGuess 14 = .ok (.iconst 4, 1) := by decide +kernel
theorem dX7_whyNoGuess_15 : decode cX7_whyNoGuess 15 = .ok (.if_icmp .ne 7, 3) := by decide +kernel
theorem dX7_whyNoGuess_18 : decode cX7_whyNoGuess 18 = .ok (.iconst 0, 1) := by decide +kernel
theorem dX7_whyNoGuess_19 : decode cX7_whyNoGuess 19 = .ok (.goto 5, 3) := by decide +kernel
theorem dX7_whyNoGuess_22 : decode cX7_whyNoGuess 22 = .ok (.bipush (-12), 2) := by decide +kernel
theorem dX7_whyNoGuess_24 : decode cX7_whyNoGuess 24 = .ok (.ireturn, 1) := by decide +kernel
theorem dX7_hasCells_0 : decode cX7_hasCells 0 = .ok (.iload_n 2, 1) := by decide +kernel
theorem dX7_hasCells_1 : decode cX7_hasCells 1 = .ok (.ifCond .lt 29, 3) := by decide +kernel
theorem dX7_hasCells_4 : decode cX7_hasCells 4 = .ok (.iload_n 1, 1) := by decide +kernel
theorem dX7_hasCells_5 : decode cX7_hasCells 5 = .ok (.ifCond .lt 25, 3) := by decide +kernel
theorem dX7_hasCells_8 : decode cX7_hasCells 8 = .ok (.iload_n 2, 1) := by decide +kernel
theorem dX7_hasCells_9 : decode cX7_hasCells 9 = .ok (.aload_n 0, 1) := by decide +kernel
theorem dX7_hasCells_10 : decode cX7_hasCells 10 = .ok (.getfield 19, 3) := by decide +kernel
theorem dX7_hasCells_13 : decode cX7_hasCells 13 = .ok (.if_icmp .gt 17, 3) := by decide +kernel
theorem dX7_hasCells_16 : decode cX7_hasCells 16 = .ok (.iload_n 1, 1) := by decide +kernel
theorem dX7_hasCells_17 : decode cX7_hasCells 17 = .ok (.aload_n 0, 1) := by decide +kernel
theorem dX7_hasCells_18 : decode cX7_hasCells 18 = .ok (.getfield 19, 3) := by decide +kernel
theorem dX7_hasCells_21 : decode cX7_hasCells 21 = .ok (.iload_n 2, 1) := by decide +kernel
theorem dX7_hasCells_22 : decode cX7_hasCells 22 = .ok (.isub, 1) := by decide +kernel
theorem dX7_hasCells_23 : decode cX7_hasCells 23 = .ok (.if_icmp .gt 7, 3) := by decide +kernel
theorem dX7_hasCells_26 : decode cX7_hasCells 26 = .ok (.iconst 1, 1) := by decide +kernel
theorem dX7_hasCells_27 : decode cX7_hasCells 27 = .ok (.goto 4, 3) := by decide +kernel
theorem dX7_hasCells_30 : decode cX7_hasCells 30 = .ok (.iconst 0, 1) := by decide +kernel
theorem dX7_hasCells_31 : decode cX7_hasCells 31 = .ok (.ireturn, 1) := by decide +kernel
theorem dX7_narrowed_0 : decode cX7_narrowed 0 = .ok (.aload_n 0, 1) := by decide +kernel
theorem dX7_narrowed_1 : decode cX7_narrowed 1 = .ok (.getfield 15, 3) := by decide +kernel
theorem dX7_narrowed_4 : decode cX7_narrowed 4 = .ok (.lookupswitch 34 #[(1, 28), (2, 31)], 28) := by decide +kernel
theorem dX7_narrowed_32 : decode cX7_narrowed 32 = .ok (.iload_n 1, 1) := by decide +kernel
theorem dX7_narrowed_33 : decode cX7_narrowed 33 = .ok (.i2b, 1) := by decide +kernel
theorem dX7_narrowed_34 : decode cX7_narrowed 34 = .ok (.ireturn, 1) := by decide +kernel
theorem dX7_narrowed_35 : decode cX7_narrowed 35 = .ok (.iload_n 1, 1) := by decide +kernel
theorem dX7_narrowed_36 : decode cX7_narrowed 36 = .ok (.i2c, 1) := by decide +kernel
theorem dX7_narrowed_37 : decode cX7_narrowed 37 = .ok (.ireturn, 1) := by decide +kernel
theorem dX7_narrowed_38 : decode cX7_narrowed 38 = .ok (.iload_n 1, 1) := by decide +kernel
theorem dX7_narrowed_39 : decode cX7_narrowed 39 = .ok (.i2s, 1) := by decide +kernel
theorem dX7_narrowed_40 : decode cX7_narrowed 40 = .ok (.ireturn, 1) := by decide +kernel
theorem dX7_pegAt_0 : decode cX7_pegAt 0 = .ok (.aload_n 0, 1) := by decide +kernel
theorem dX7_pegAt_1 : decode cX7_pegAt 1 = .ok (.getfield 15, 3) := by decide +kernel
theorem dX7_pegAt_4 : decode cX7_pegAt 4 = .ok (.iconst 2, 1) := by decide +kernel
theorem dX7_pegAt_5 : decode cX7_pegAt 5 = .ok (.if_icmp .ne 18, 3) := by decide +kernel
theorem dX7_pegAt_8 : decode cX7_pegAt 8 = .ok (.aload_n 0, 1) := by decide +kernel
theorem dX7_pegAt_9 : decode cX7_pegAt 9 = .ok (.getfield 9, 3) := by decide +kernel
theorem dX7_pegAt_12 : decode cX7_pegAt 12 = .ok (.iload_n 1, 1) := by decide +kernel
theorem dX7_pegAt_13 : decode cX7_pegAt 13 = .ok (.iaload, 1) := by decide +kernel
theorem dX7_pegAt_14 : decode cX7_pegAt 14 = .ok (.ldc 42, 2) := by decide +kernel
theorem dX7_pegAt_16 : decode cX7_pegAt 16 = .ok (.if_icmp .ne 7, 3) := by decide +kernel
theorem dX7_pegAt_19 : decode cX7_pegAt 19 = .ok (.iconst (-1), 1) := by decide +kernel
theorem dX7_pegAt_20 : decode cX7_pegAt 20 = .ok (.goto 9, 3) := by decide +kernel
theorem dX7_pegAt_23 : decode cX7_pegAt 23 = .ok (.aload_n 0, 1) := by decide +kernel
theorem dX7_pegAt_24 : decode cX7_pegAt 24 = .ok (.getfield 9, 3) := by decide +kernel
theorem dX7_pegAt_27 : decode cX7_pegAt 27 = .ok (.iload_n 1, 1) := by decide +kernel
theorem dX7_pegAt_28 : decode cX7_pegAt 28 = .ok (.iaload, 1) := by decide +kernel
theorem dX7_pegAt_29 : decode cX7_pegAt 29 = .ok (.ireturn, 1) := by decide +kernel
theorem dX7_pegsSet_0 : decode cX7_pegsSet 0 = .ok (.iconst 0, 1) := by decide +kernel
theorem dX7_pegsSet_1 : decode cX7_pegsSet 1 = .ok (.istore_n 1, 1) := by decide +kernel
theorem dX7_pegsSet_2 : decode cX7_pegsSet 2 = .ok (.iconst 0, 1) := by decide +kernel
theorem dX7_pegsSet_3 : decode cX7_pegsSet 3 = .ok (.istore_n 2, 1) := by decide +kernel
theorem dX7_pegsSet_4 : decode cX7_pegsSet 4 = .ok (.iload_n 2, 1) := by decide +kernel
theorem dX7_pegsSet_5 : decode cX7_pegsSet 5 = .ok (.aload_n 0, 1) := by decide +kernel
theorem dX7_pegsSet_6 : decode cX7_pegsSet 6 = .ok (.getfield 19, 3) := by decide +kernel
theorem dX7_pegsSet_9 : decode cX7_pegsSet 9 = .ok (.if_icmp .ge 22, 3) := by decide +kernel
theorem dX7_pegsSet_12 : decode cX7_pegsSet 12 = .ok (.aload_n 0, 1) := by decide +kernel
theorem dX7_pegsSet_13 : decode cX7_pegsSet 13 = .ok (.getfield 9, 3) := by decide +kernel
theorem dX7_pegsSet_16 : decode cX7_pegsSet 16 = .ok (.iload_n 2, 1) := by decide +kernel
theorem dX7_pegsSet_17 : decode cX7_pegsSet 17 = .ok (.iaload, 1) := by decide +kernel
theorem dX7_pegsSet_18 : decode cX7_pegsSet 18 = .ok (.iconst (-1), 1) := by decide +kernel
theorem dX7_pegsSet_19 : decode cX7_pegsSet 19 = .ok (.if_icmp .eq 6, 3) := by decide +kernel
theorem dX7_pegsSet_22 : decode cX7_pegsSet 22 = .ok (.iinc 1 1, 3) := by decide +kernel
theorem dX7_pegsSet_25 : decode cX7_pegsSet 25 = .ok (.iinc 2 1, 3) := by decide +kernel
theorem dX7_pegsSet_28 : decode cX7_pegsSet 28 = .ok (.goto (-24), 3) := by decide +kernel
theorem dX7_pegsSet_31 : decode cX7_pegsSet 31 = .ok (.iload_n 1, 1) := by decide +kernel
theorem dX7_pegsSet_32 : decode cX7_pegsSet 32 = .ok (.ireturn, 1) := by decide +kernel
theorem dX7_weight_0 : decode cX7_weight 0 = .ok (.aload_n 0, 1) := by decide +kernel
theorem dX7_weight_1 : decode cX7_weight 1 = .ok (.invokevirtual 43, 3) := by decide +kernel
theorem dX7_weight_4 : decode cX7_weight 4 = .ok (.istore_n 1, 1) := by decide +kernel
theorem dX7_weight_5 : decode cX7_weight 5 = .ok (.iload_n 1, 1) := by decide +kernel
theorem dX7_weight_6 : decode cX7_weight 6 = .ok (.bipush 10, 2) := by decide +kernel
theorem dX7_weight_8 : decode cX7_weight 8 = .ok (.iadd, 1) := by decide +kernel
theorem dX7_weight_9 : decode cX7_weight 9 = .ok (.istore_n 2, 1) := by decide +kernel
theorem dX7_weight_10 : decode cX7_weight 10 = .ok (.aload_n 0, 1) := by decide +kernel
theorem dX7_weight_11 : decode cX7_weight 11 = .ok (.getfield 28, 3) := by decide +kernel
theorem dX7_weight_14 : decode cX7_weight 14 = .ok (.tableswitch 51 1 4 #[30, 32, 36, 45], 30) := by decide +kernel
theorem dX7_weight_44 : decode cX7_weight 44 = .ok (.iload_n 2, 1) := by decide +kernel
theorem dX7_weight_45 : decode cX7_weight 45 = .ok (.ireturn, 1) := by decide +kernel
theorem dX7_weight_46 : decode cX7_weight 46 = .ok (.iconst 2, 1) := by decide +kernel
theorem dX7_weight_47 : decode cX7_weight 47 = .ok (.iload_n 2, 1) := by decide +kernel
theorem dX7_weight_48 : decode cX7_weight 48 = .ok (.imul, 1) := by decide +kernel
theorem dX7_weight_49 : decode cX7_weight 49 = .ok (.ireturn, 1) := by decide +kernel
theorem dX7_weight_50 : decode cX7_weight 50 = .ok (.iload_n 1, 1) := by decide +kernel
theorem dX7_weight_51 : decode cX7_weight 51 = .ok (.aload_n 0, 1) := by decide +kernel
theorem dX7_weight_52 : decode cX7_weight 52 = .ok (.getfield 19, 3) := by decide +kernel
theorem dX7_weight_55 : decode cX7_weight 55 = .ok (.iload_n 1, 1) := by decide +kernel
theorem dX7_weight_56 : decode cX7_weight 56 = .ok (.isub, 1) := by decide +kernel
theorem dX7_weight_57 : decode cX7_weight 57 = .ok (.isub, 1) := by decide +kernel
theorem dX7_weight_58 : decode cX7_weight 58 = .ok (.ireturn, 1) := by decide +kernel
theorem dX7_weight_59 : decode cX7_weight 59 = .ok (.iconst 2, 1) := by decide +kernel
theorem dX7_weight_60 : decode cX7_weight 60 = .ok (.iload_n 2, 1) := by decide +kernel
theorem dX7_weight_61 : decode cX7_weight 61 = .ok (.imul, 1) := by decide +kernel
theorem dX7_weight_62 : decode cX7_weight 62 = .ok (.iconst 1, 1) := by decide +kernel
theorem dX7_weight_63 : decode cX7_weight 63 = .ok (.iadd, 1) := by decide +kernel
theorem dX7_weight_64 : decode cX7_weight 64 = .ok (.ireturn, 1) := by decide +kernel
theorem dX7_weight_65 : decode cX7_weight 65 = .ok (.iload_n 1, 1) := by decide +kernel
theorem dX7_weight_66 : decode cX7_weight 66 = .ok (.ireturn, 1) := by decide +kernel
theorem dX7_rank_0 : decode cX7_rank 0 = .ok (.aload_n 0, 1) := by decide +kernel
theorem dX7_rank_1 : decode cX7_rank 1 = .ok (.getfield 28, 3) := by decide +kernel
theorem dX7_rank_4 : decode cX7_rank 4 = .ok (.tableswitch 41 1 4 #[32, 34, 36, 38], 32) := by decide +kernel
theorem dX7_rank_36 : decode cX7_rank 36 = .ok (.iconst 2, 1) := by decide +kernel
theorem dX7_rank_37 : decode cX7_rank 37 = .ok (.ireturn, 1) := by decide +kernel
theorem dX7_rank_38 : decode cX7_rank 38 = .ok (.iconst 2, 1) := by decide +kernel
theorem dX7_rank_39 : decode cX7_rank 39 = .ok (.ireturn, 1) := by decide +kernel
theorem dX7_rank_40 : decode cX7_rank 40 = .ok (.iconst 0, 1) := by decide +kernel
theorem dX7_rank_41 : decode cX7_rank 41 = .ok (.ireturn, 1) := by decide +kernel
theorem dX7_rank_42 : decode cX7_rank 42 = .ok (.bipush 7, 2) := by decide +kernel
theorem dX7_rank_44 : decode cX7_rank 44 = .ok (.ireturn, 1) := by decide +kernel
theorem dX7_rank_45 : decode cX7_rank 45 = .ok (.iconst 1, 1) := by decide +kernel
theorem dX7_rank_46 : decode cX7_rank 46 = .ok (.ireturn, 1) := by decide +kernel
theorem dX7_failIfAnyPeg_0 : decode cX7_failIfAnyPeg 0 = .ok (.aload_n 0, 1) := by decide +kernel
theorem dX7_failIfAnyPeg_1 : decode cX7_failIfAnyPeg 1 = .ok (.invokevirtual 43, 3) := by decide +kernel
theorem dX7_failIfAnyPeg_4 : decode cX7_failIfAnyPeg 4 = .ok (.ifCond .le 13, 3) := by decide +kernel
theorem dX7_failIfAnyPeg_7 : decode cX7_failIfAnyPeg 7 = .ok (.new 47, 3) := by decide +kernel
theorem dX7_failIfAnyPeg_10 : decode cX7_failIfAnyPeg 10 = .ok (.dup, 1) := by decide +kernel
theorem dX7_failIfAnyPeg_11 : decode cX7_failIfAnyPeg 11 = .ok (.ldc 49, 2) := by decide +kernel
theorem dX7_failIfAnyPeg_13 : decode cX7_failIfAnyPeg 13 = .ok (.invokespecial 51, 3) := by decide +kernel
theorem dX7_failIfAnyPeg_16 : decode cX7_failIfAnyPeg 16 = .ok (.athrow, 1) := by decide +kernel
theorem dX7_failIfAnyPeg_17 : decode cX7_failIfAnyPeg 17 = .ok (.return_, 1) := by decide +kernel
theorem dX8_init_0 : decode cX8_init 0 = .ok (.aload_n 0, 1) := by decide +kernel
theorem dX8_init_1 : decode cX8_init 1 = .ok (.invokespecial 1, 3) := by decide +kernel
theorem dX8_init_4 : decode cX8_init 4 = .ok (.aload_n 0, 1) := by decide +kernel
theorem dX8_init_5 : decode cX8_init 5 = .ok (.iconst (-1), 1) := by decide +kernel
theorem dX8_init_6 : decode cX8_init 6 = .ok (.putfield 7, 3) := by decide +kernel
theorem dX8_init_9 : decode cX8_init 9 = .ok (.return_, 1) := by decide +kernel
theorem dX8_look_0 : decode cX8_look 0 = .ok (.aload_n 0, 1) := by decide +kernel
theorem dX8_look_1 : decode cX8_look 1 = .ok (.getfield 7, 3) := by decide +kernel
theorem dX8_look_4 : decode cX8_look 4 = .ok (.aload_n 1, 1) := by decide +kernel
theorem dX8_look_5 : decode cX8_look 5 = .ok (.getfield 13, 3) := by decide +kernel
theorem dX8_look_8 : decode cX8_look 8 = .ok (.if_icmp .ne 4, 3) := by decide +kernel
theorem dX8_look_11 : decode cX8_look 11 = .ok (.return_, 1) := by decide +kernel
theorem dX8_look_12 : decode cX8_look 12 = .ok (.aload_n 0, 1) := by decide +kernel
theorem dX8_look_13 : decode cX8_look 13 = .ok (.aload_n 1, 1) := by decide +kernel
theorem dX8_look_14 : decode cX8_look 14 = .ok (.getfield 13, 3) := by decide +kernel
theorem dX8_look_17 : decode cX8_look 17 = .ok (.putfield 7, 3) := by decide +kernel
theorem dX8_look_20 : decode cX8_look 20 = .ok (.aload_n 0, 1) := by decide +kernel
theorem dX8_look_21 : decode cX8_look 21 = .ok (.aload_n 1, 1) := by decide +kernel
theorem dX8_look_22 : decode cX8_look 22 = .ok (.getfield 18, 3) := by decide +kernel
theorem dX8_look_25 : decode cX8_look 25 = .ok (.iconst 1, 1) := by decide +kernel
theorem dX8_look_26 : decode cX8_look 26 = .ok (.iadd, 1) := by decide +kernel
theorem dX8_look_27 : decode cX8_look 27 = .ok (.putfield 21, 3) := by decide +kernel
theorem dX8_look_30 : decode cX8_look 30 = .ok (.aload_n 0, 1) := by decide +kernel
theorem dX8_look_31 : decode cX8_look 31 = .ok (.iconst 0, 1) := by decide +kernel
theorem dX8_look_32 : decode cX8_look 32 = .ok (.putfield 24, 3) := by decide +kernel
theorem dX8_look_35 : decode cX8_look 35 = .ok (.iconst 0, 1) := by decide +kernel
theorem dX8_look_36 : decode cX8_look 36 = .ok (.istore_n 3, 1) := by decide +kernel
theorem dX8_look_37 : decode cX8_look 37 = .ok (.iload_n 3, 1) := by decide +kernel
theorem dX8_look_38 : decode cX8_look 38 = .ok (.aload_n 1, 1) := by decide +kernel
theorem dX8_look_39 : decode cX8_look 39 = .ok (.getfield 27, 3) := by decide +kernel
theorem dX8_look_42 : decode cX8_look 42 = .ok (.getfield 31, 3) := by decide +kernel
theorem dX8_look_45 : decode cX8_look 45 = .ok (.if_icmp .ge 80, 3) := by decide +kernel
theorem dX8_look_48 : decode cX8_look 48 = .ok (.aload_n 2, 1) := by decide +kernel
theorem dX8_look_49 : decode cX8_look 49 = .ok (.aload_n 1, 1) := by decide +kernel
theorem dX8_look_50 : decode cX8_look 50 = .ok (.aload_n 1, 1) := by decide +kernel
theorem dX8_look_51 : decode cX8_look 51 = .ok (.getfield 27, 3) := by decide +kernel
theorem dX8_look_54 : decode cX8_look 54 = .ok (.getfield 36, 3) := by decide +kernel
theorem dX8_look_57 : decode cX8_look 57 = .ok (.iload_n 3, 1) := by decide +kernel
theorem dX8_look_58 : decode cX8_look 58 = .ok (.iaload, 1) := by decide +kernel
theorem dX8_look_59 : decode cX8_look 59 = .ok (.aload_n 1, 1) := by decide +kernel
theorem dX8_look_60 : decode cX8_look 60 = .ok (.getfield 27, 3) := by decide +kernel
theorem dX8_look_63 : decode cX8_look 63 = .ok (.getfield 40, 3) := by decide +kernel
theorem dX8_look_66 : decode cX8_look 66 = .ok (.iload_n 3, 1) := by decide +kernel
theorem dX8_look_67 : decode cX8_look 67 = .ok (.iaload, 1) := by decide +kernel
theorem dX8_look_68 : decode cX8_look 68 = .ok (.invokevirtual 43, 3) := by decide +kernel
theorem dX8_look_71 : decode cX8_look 71 = .ok (.aload_n 2, 1) := by decide +kernel
theorem dX8_look_72 : decode cX8_look 72 = .ok (.getfield 49, 3) := by decide +kernel
theorem dX8_look_75 : decode cX8_look 75 = .ok (.aload_n 0, 1) := by decide +kernel
theorem dX8_look_76 : decode cX8_look 76 = .ok (.getfield 21, 3) := by decide +kernel
theorem dX8_look_79 : decode cX8_look 79 = .ok (.if_icmp .ge 16, 3) := by decide +kernel
theorem dX8_look_82 : decode cX8_look 82 = .ok (.aload_n 0, 1) := by decide +kernel
theorem dX8_look_83 : decode cX8_look 83 = .ok (.aload_n 2, 1) := by decide +kernel
theorem dX8_look_84 : decode cX8_look 84 = .ok (.getfield 49, 3) := by decide +kernel
theorem dX8_look_87 : decode cX8_look 87 = .ok (.putfield 21, 3) := by decide +kernel
theorem dX8_look_90 : decode cX8_look 90 = .ok (.aload_n 0, 1) := by decide +kernel
theorem dX8_look_91 : decode cX8_look 91 = .ok (.iload_n 3, 1) := by decide +kernel
theorem dX8_look_92 : decode cX8_look 92 = .ok (.putfield 52, 3) := by decide +kernel
theorem dX8_look_95 : decode cX8_look 95 = .ok (.aload_n 2, 1) := by decide +kernel
theorem dX8_look_96 : decode cX8_look 96 = .ok (.getfield 55, 3) := by decide +kernel
theorem dX8_look_99 : decode cX8_look 99 = .ok (.aload_n 0, 1) := by decide +kernel
theorem dX8_look_100 : decode cX8_look 100 = .ok (.getfield 24, 3) := by decide +kernel
theorem dX8_look_103 : decode cX8_look 103 = .ok (.if_icmp .le 16, 3) := by decide +kernel
theorem dX8_look_106 : decode cX8_look 106 = .ok (.aload_n 0, 1) := by decide +kernel
theorem dX8_look_107 : decode cX8_look 107 = .ok (.aload_n 2, 1) := by decide +kernel
theorem dX8_look_108 : decode cX8_look 108 = .ok (.getfield 55, 3) := by decide +kernel
theorem dX8_look_111 : decode cX8_look 111 = .ok (.putfield 24, 3) := by decide +kernel
theorem dX8_look_114 : decode cX8_look 114 = .ok (.aload_n 0, 1) := by decide +kernel
theorem dX8_look_115 : decode cX8_look 115 = .ok (.iload_n 3, 1) := by decide +kernel
theorem dX8_look_116 : decode cX8_look 116 = .ok (.putfield 58, 3) := by decide +kernel
theorem dX8_look_119 : decode cX8_look 119 = .ok (.iinc 3 1, 3) := by decide +kernel
theorem dX8_look_122 : decode cX8_look 122 = .ok (.goto (-85), 3) := by decide +kernel
theorem dX8_look_125 : decode cX8_look 125 = .ok (.return_, 1) := by decide +kernel
theorem dX9_init_0 : decode cX9_init 0 = .ok (.aload_n 0, 1) := by decide +kernel
theorem dX9_init_1 : decode cX9_init 1 = .ok (.invokespecial 3, 3) := by decide +kernel
theorem dX9_init_4 : decode cX9_init 4 = .ok (.aload_n 0, 1) := by decide +kernel
theorem dX9_init_5 : decode cX9_init 5 = .ok (.bipush 20, 2) := by decide +kernel
theorem dX9_init_7 : decode cX9_init 7 = .ok (.newarray .int, 2) := by decide +kernel
theorem dX9_init_9 : decode cX9_init 9 = .ok (.putfield 9, 3) := by decide +kernel
theorem dX9_init_12 : decode cX9_init 12 = .ok (.aload_n 0, 1) := by decide +kernel
theorem dX9_init_13 : decode cX9_init 13 = .ok (.bipush 20, 2) := by decide +kernel
theorem dX9_init_15 : decode cX9_init 15 = .ok (.newarray .int, 2) := by decide +kernel
theorem dX9_init_17 : decode cX9_init 17 = .ok (.putfield 15, 3) := by decide +kernel
theorem dX9_init_20 : decode cX9_init 20 = .ok (.aload_n 0, 1) := by decide +kernel
theorem dX9_init_21 : decode cX9_init 21 = .ok (.bipush 20, 2) := by decide +kernel
theorem dX9_init_23 : decode cX9_init 23 = .ok (.newarray .int, 2) := by decide +kernel
theorem dX9_init_25 : decode cX9_init 25 = .ok (.putfield 18, 3) := by decide +kernel
theorem dX9_init_28 : decode cX9_init 28 = .ok (.aload_n 0, 1) := by decide +kernel
theorem dX9_init_29 : decode cX9_init 29 = .ok (.bipush 20, 2) := by decide +kernel
theorem dX9_init_31 : decode cX9_init 31 = .ok (.newarray .int, 2) := by decide +kernel
theorem dX9_init_33 : decode cX9_init 33 = .ok (.putfield 21, 3) := by decide +kernel
theorem dX9_init_36 : decode cX9_init 36 = .ok (.aload_n 0, 1) := by decide +kernel
theorem dX9_init_37 : decode cX9_init 37 = .ok (.bipush 20, 2) := by decide +kernel
theorem dX9_init_39 : decode cX9_init 39 = .ok (.newarray .int, 2) := by decide +kernel
theorem dX9_init_41 : decode cX9_init 41 = .ok (.putfield 24, 3) := by decide +kernel
theorem dX9_init_44 : decode cX9_init 44 = .ok (.return_, 1) := by decide +kernel
theorem dX9_add_0 : decode cX9_add 0 = .ok (.aload_n 0, 1) := by decide +kernel
theorem dX9_add_1 : decode cX9_add 1 = .ok (.getfield 27, 3) := by decide +kernel
theorem dX9_add_4 : decode cX9_add 4 = .ok (.bipush 20, 2) := by decide +kernel
theorem dX9_add_6 : decode cX9_add 6 = .ok (.if_icmp .lt 4, 3) := by decide +kernel
theorem dX9_add_9 : decode cX9_add 9 = .ok (.return_, 1) := by decide +kernel
theorem dX9_add_10 : decode cX9_add 10 = .ok (.aload_n 0, 1) := by decide +kernel
theorem dX9_add_11 : decode cX9_add 11 = .ok (.getfield 9, 3) := by decide +kernel
theorem dX9_add_14 : decode cX9_add 14 = .ok (.aload_n 0, 1) := by decide +kernel
theorem dX9_add_15 : decode cX9_add 15 = .ok (.getfield 27, 3) := by decide +kernel
theorem dX9_add_18 : decode cX9_add 18 = .ok (.iload_n 1, 1) := by decide +kernel
theorem dX9_add_19 : decode cX9_add 19 = .ok (.iastore, 1) := by decide +kernel
theorem dX9_add_20 : decode cX9_add 20 = .ok (.aload_n 0, 1) := by decide +kernel
theorem dX9_add_21 : decode cX9_add 21 = .ok (.getfield 15, 3) := by decide +kernel
theorem dX9_add_24 : decode cX9_add 24 = .ok (.aload_n 0, 1) := by decide +kernel
theorem dX9_add_25 : decode cX9_add 25 = .ok (.getfield 27, 3) := by decide +kernel
theorem dX9_add_28 : decode cX9_add 28 = .ok (.iload_n 2, 1) := by decide +kernel
theorem dX9_add_29 : decode cX9_add 29 = .ok (.iastore, 1) := by decide +kernel
theorem dX9_add_30 : decode cX9_add 30 = .ok (.aload_n 0, 1) := by decide +kernel
theorem dX9_add_31 : decode cX9_add 31 = .ok (.getfield 18, 3) := by decide +kernel
theorem dX9_add_34 : decode cX9_add 34 = .ok (.aload_n 0, 1) := by decide +kernel
theorem dX9_add_35 : decode cX9_add 35 = .ok (.getfield 27, 3) := by decide +kernel
theorem dX9_add_38 : decode cX9_add 38 = .ok (.iload_n 3, 1) := by decide +kernel
theorem dX9_add_39 : decode cX9_add 39 = .ok (.iastore, 1) := by decide +kernel
theorem dX9_add_40 : decode cX9_add 40 = .ok (.aload_n 0, 1) := by decide +kernel
theorem dX9_add_41 : decode cX9_add 41 = .ok (.getfield 21, 3) := by decide +kernel
theorem dX9_add_44 : decode cX9_add 44 = .ok (.aload_n 0, 1) := by decide +kernel
theorem dX9_add_45 : decode cX9_add 45 = .ok (.getfield 27, 3) := by decide +kernel
theorem dX9_add_48 : decode cX9_add 48 = .ok (.iload 4, 2) := by decide +kernel
theorem dX9_add_50 : decode cX9_add 50 = .ok (.iastore, 1) := by decide +kernel
theorem dX9_add_51 : decode cX9_add 51 = .ok (.aload_n 0, 1) := by decide +kernel
theorem dX9_add_52 : decode cX9_add 52 = .ok (.getfield 24, 3) := by decide +kernel
theorem dX9_add_55 : decode cX9_add 55 = .ok (.aload_n 0, 1) := by decide +kernel
theorem dX9_add_56 : decode cX9_add 56 = .ok (.getfield 27, 3) := by decide +kernel
theorem dX9_add_59 : decode cX9_add 59 = .ok (.iload_n 2, 1) := by decide +kernel
theorem dX9_add_60 : decode cX9_add 60 = .ok (.ifCond .ge 7, 3) := by decide +kernel
theorem dX9_add_63 : decode cX9_add 63 = .ok (.iconst 1, 1) := by decide +kernel
theorem dX9_add_64 : decode cX9_add 64 = .ok (.goto 11, 3) := by decide +kernel
theorem dX9_add_67 : decode cX9_add 67 = .ok (.aload_n 0, 1) := by decide +kernel
theorem dX9_add_68 : decode cX9_add 68 = .ok (.getfield 24, 3) := by decide +kernel
theorem dX9_add_71 : decode cX9_add 71 = .ok (.iload_n 2, 1) := by decide +kernel
theorem dX9_add_72 : decode cX9_add 72 = .ok (.iaload, 1) := by decide +kernel
theorem dX9_add_73 : decode cX9_add 73 = .ok (.iconst 1, 1) := by decide +kernel
theorem dX9_add_74 : decode cX9_add 74 = .ok (.iadd, 1) := by decide +kernel
theorem dX9_add_75 : decode cX9_add 75 = .ok (.iastore, 1) := by decide +kernel
theorem dX9_add_76 : decode cX9_add 76 = .ok (.aload_n 0, 1) := by decide +kernel
theorem dX9_add_77 : decode cX9_add 77 = .ok (.dup, 1) := by decide +kernel
theorem dX9_add_78 : decode cX9_add 78 = .ok (.getfield 27, 3) := by decide +kernel
theorem dX9_add_81 : decode cX9_add 81 = .ok (.iconst 1, 1) := by decide +kernel
theorem dX9_add_82 : decode cX9_add 82 = .ok (.iadd, 1) := by decide +kernel
theorem dX9_add_83 : decode cX9_add 83 = .ok (.putfield 27, 3) := by decide +kernel
theorem dX9_add_86 : decode cX9_add 86 = .ok (.return_, 1) := by decide +kernel
theorem dX10_init_0 : decode cX10_init 0 = .ok (.aload_n 0, 1) := by decide +kernel
theorem dX10_init_1 : decode cX10_init 1 = .ok (.invokespecial 3, 3) := by decide +kernel
theorem dX10_init_4 : decode cX10_init 4 = .ok (.aload_n 0, 1) := by decide +kernel
theorem dX10_init_5 : decode cX10_init 5 = .ok (.iconst 4, 1) := by decide +kernel
theorem dX10_init_6 : decode cX10_init 6 = .ok (.newarray .int, 2) := by decide +kernel
theorem dX10_init_8 : decode cX10_init 8 = .ok (.putfield 9, 3) := by decide +kernel
theorem dX10_init_11 : decode cX10_init 11 = .ok (.aload_n 0, 1) := by decide +kernel
theorem dX10_init_12 : decode cX10_init 12 = .ok (.iconst 5, 1) := by decide +kernel
theorem dX10_init_13 : decode cX10_init 13 = .ok (.newarray .int, 2) := by decide +kernel
theorem dX10_init_15 : decode cX10_init 15 = .ok (.putfield 15, 3) := by decide +kernel
theorem dX10_init_18 : decode cX10_init 18 = .ok (.aload_n 0, 1) := by decide +kernel
theorem dX10_init_19 : decode cX10_init 19 = .ok (.iconst 4, 1) := by decide +kernel
theorem dX10_init_20 : decode cX10_init 20 = .ok (.newarray .int, 2) := by decide +kernel
theorem dX10_init_22 : decode cX10_init 22 = .ok (.putfield 18, 3) := by decide +kernel
theorem dX10_init_25 : decode cX10_init 25 = .ok (.aload_n 0, 1) := by decide +kernel
theorem dX10_init_26 : decode cX10_init 26 = .ok (.aload_n 1, 1) := by decide +kernel
theorem dX10_init_27 : decode cX10_init 27 = .ok (.putfield 21, 3) := by decide +kernel
theorem dX10_init_30 : decode cX10_init 30 = .ok (.return_, 1) := by decide +kernel
theorem dX10_leads_0 : decode cX10_leads 0 = .ok (.aload_n 0, 1) := by decide +kernel
theorem dX10_leads_1 : decode cX10_leads 1 = .ok (.invokevirtual 25, 3) := by decide +kernel
theorem dX10_leads_4 : decode cX10_leads 4 = .ok (.aload_n 0, 1) := by decide +kernel
theorem dX10_leads_5 : decode cX10_leads 5 = .ok (.getfield 9, 3) := by decide +kernel
theorem dX10_leads_8 : decode cX10_leads 8 = .ok (.aload_n 0, 1) := by decide +kernel
theorem dX10_leads_9 : decode cX10_leads 9 = .ok (.getfield 21, 3) := by decide +kernel
theorem dX10_leads_12 : decode cX10_leads 12 = .ok (.getfield 28, 3) := by decide +kernel
theorem dX10_leads_15 : decode cX10_leads 15 = .ok (.invokestatic 34, 3) := by decide +kernel
theorem dX10_leads_18 : decode cX10_leads 18 = .ok (.istore 4, 2) := by decide +kernel
theorem dX10_leads_20 : decode cX10_leads 20 = .ok (.iconst 0, 1) := by decide +kernel
theorem dX10_leads_21 : decode cX10_leads 21 = .ok (.istore 5, 2) := by decide +kernel
theorem dX10_leads_23 : decode cX10_leads 23 = .ok (.iload 5, 2) := by decide +kernel
theorem dX10_leads_25 : decode cX10_leads 25 = .ok (.iload 4, 2) := by decide +kernel
theorem dX10_leads_27 : decode cX10_leads 27 = .ok (.if_icmp .ge 88, 3) := by decide +kernel
theorem dX10_leads_30 : decode cX10_leads 30 = .ok (.aload_n 0, 1) := by decide +kernel
theorem dX10_leads_31 : decode cX10_leads 31 = .ok (.getfield 15, 3) := by decide +kernel
theorem dX10_leads_34 : decode cX10_leads 34 = .ok (.aload_n 0, 1) := by decide +kernel
theorem dX10_leads_35 : decode cX10_leads 35 = .ok (.getfield 21, 3) := by decide +kernel
theorem dX10_leads_38 : decode cX10_leads 38 = .ok (.getfield 38, 3) := by decide +kernel
theorem dX10_leads_41 : decode cX10_leads 41 = .ok (.invokestatic 34, 3) := by decide +kernel
theorem dX10_leads_44 : decode cX10_leads 44 = .ok (.istore 6, 2) := by decide +kernel
theorem dX10_leads_46 : decode cX10_leads 46 = .ok (.iconst 0, 1) := by decide +kernel
theorem dX10_leads_47 : decode cX10_leads 47 = .ok (.istore 7, 2) := by decide +kernel
theorem dX10_leads_49 : decode cX10_leads 49 = .ok (.iload 7, 2) := by decide +kernel
theorem dX10_leads_51 : decode cX10_leads 51 = .ok (.iload 6, 2) := by decide +kernel
theorem dX10_leads_53 : decode cX10_leads 53 = .ok (.if_icmp .ge 42, 3) := by decide +kernel
theorem dX10_leads_56 : decode cX10_leads 56 = .ok (.aload_n 0, 1) := by decide +kernel
theorem dX10_leads_57 : decode cX10_leads 57 = .ok (.iload_n 2, 1) := by decide +kernel
theorem dX10_leads_58 : decode cX10_leads 58 = .ok (.invokevirtual 41, 3) := by decide +kernel
theorem dX10_leads_61 : decode cX10_leads 61 = .ok (.iload_n 3, 1) := by decide +kernel
theorem dX10_leads_62 : decode cX10_leads 62 = .ok (.if_icmp .ne 13, 3) := by decide +kernel
theorem dX10_leads_65 : decode cX10_leads 65 = .ok (.aload_n 0, 1) := by decide +kernel
theorem dX10_leads_66 : decode cX10_leads 66 = .ok (.aload_n 1, 1) := by decide +kernel
theorem dX10_leads_67 : decode cX10_leads 67 = .ok (.invokevirtual 45, 3) := by decide +kernel
theorem dX10_leads_70 : decode cX10_leads 70 = .ok (.ifCond .eq 5, 3) := by decide +kernel
theorem dX10_leads_73 : decode cX10_leads 73 = .ok (.iconst 1, 1) := by decide +kernel
theorem dX10_leads_74 : decode cX10_leads 74 = .ok (.ireturn, 1) := by decide +kernel
theorem dX10_leads_75 : decode cX10_leads 75 = .ok (.aload_n 0, 1) := by decide +kernel
theorem dX10_leads_76 : decode cX10_leads 76 = .ok (.getfield 15, 3) := by decide +kernel
theorem dX10_leads_79 : decode cX10_leads 79 = .ok (.aload_n 0, 1) := by decide +kernel
theorem dX10_leads_80 : decode cX10_leads 80 = .ok (.getfield 21, 3) := by decide +kernel
theorem dX10_leads_83 : decode cX10_leads 83 = .ok (.getfield 38, 3) := by decide +kernel
theorem dX10_leads_86 : decode cX10_leads 86 = .ok (.invokestatic 49, 3) := by decide +kernel
theorem dX10_leads_89 : decode cX10_leads 89 = .ok (.iinc 7 1, 3) := by decide +kernel
theorem dX10_leads_92 : decode cX10_leads 92 = .ok (.goto (-43), 3) := by decide +kernel
theorem dX10_leads_95 : decode cX10_leads 95 = .ok (.aload_n 0, 1) := by decide +kernel
theorem dX10_leads_96 : decode cX10_leads 96 = .ok (.getfield 9, 3) := by decide +kernel
theorem dX10_leads_99 : decode cX10_leads 99 = .ok (.aload_n 0, 1) := by decide +kernel
theorem dX10_leads_100 : decode cX10_leads 100 = .ok (.getfield 21, 3) := by decide +kernel
theorem dX10_leads_103 : decode cX10_leads 103 = .ok (.getfield 28, 3) := by decide +kernel
theorem dX10_leads_106 : decode cX10_leads 106 = .ok (.invokestatic 49, 3) := by decide +kernel
theorem dX10_leads_109 : decode cX10_leads 109 = .ok (.iinc 5 1, 3) := by decide +kernel
theorem dX10_leads_112 : decode cX10_leads 112 = .ok (.goto (-89), 3) := by decide +kernel
theorem dX10_leads_115 : decode cX10_leads 115 = .ok (.iconst 0, 1) := by decide +kernel
theorem dX10_leads_116 : decode cX10_leads 116 = .ok (.ireturn, 1) := by decide +kernel
theorem dX10_weighPlaces_0 : decode cX10_weighPlaces 0 = .ok (.iconst 1, 1) := by decide +kernel
theorem dX10_weighPlaces_1 : decode cX10_weighPlaces 1 = .ok (.istore_n 1, 1) := by decide +kernel
theorem dX10_weighPlaces_2 : decode cX10_weighPlaces 2 = .ok (.aload_n 0, 1) := by decide +kernel
theorem dX10_weighPlaces_3 : decode cX10_weighPlaces 3 = .ok (.getfield 21, 3) := by decide +kernel
theorem dX10_weighPlaces_6 : decode cX10_weighPlaces 6 = .ok (.getfield 28, 3) := by decide +kernel
theorem dX10_weighPlaces_9 : decode cX10_weighPlaces 9 = .ok (.iconst 1, 1) := by decide +kernel
theorem dX10_weighPlaces_10 : decode cX10_weighPlaces 10 = .ok (.isub, 1) := by decide +kernel
theorem dX10_weighPlaces_11 : decode cX10_weighPlaces 11 = .ok (.istore_n 2, 1) := by decide +kernel
theorem dX10_weighPlaces_12 : decode cX10_weighPlaces 12 = .ok (.iload_n 2, 1) := by decide +kernel
theorem dX10_weighPlaces_13 : decode cX10_weighPlaces 13 = .ok (.ifCond .lt 26, 3) := by decide +kernel
theorem dX10_weighPlaces_16 : decode cX10_weighPlaces 16 = .ok (.aload_n 0, 1) := by decide +kernel
theorem dX10_weighPlaces_17 : decode cX10_weighPlaces 17 = .ok (.getfield 18, 3) := by decide +kernel
theorem dX10_weighPlaces_20 : decode cX10_weighPlaces 20 = .ok (.iload_n 2, 1) := by decide +kernel
theorem dX10_weighPlaces_21 : decode cX10_weighPlaces 21 = .ok (.iload_n 1, 1) := by decide +kernel
theorem dX10_weighPlaces_22 : decode cX10_weighPlaces 22 = .ok (.iastore, 1) := by decide +kernel
theorem dX10_weighPlaces_23 : decode cX10_weighPlaces 23 = .ok (.iload_n 1, 1) := by decide +kernel
theorem dX10_weighPlaces_24 : decode cX10_weighPlaces 24 = .ok (.aload_n 0, 1) := by decide +kernel
theorem dX10_weighPlaces_25 : decode cX10_weighPlaces 25 = .ok (.getfield 21, 3) := by decide +kernel
theorem dX10_weighPlaces_28 : decode cX10_weighPlaces 28 = .ok (.getfield 38, 3) := by decide +kernel
theorem dX10_weighPlaces_31 : decode cX10_weighPlaces 31 = .ok (.imul, 1) := by decide +kernel
theorem dX10_weighPlaces_32 : decode cX10_weighPlaces 32 = .ok (.istore_n 1, 1) := by decide +kernel
theorem dX10_weighPlaces_33 : decode cX10_weighPlaces 33 = .ok (.iinc 2 (-1), 3) := by decide +kernel
theorem dX10_weighPlaces_36 : decode cX10_weighPlaces 36 = .ok (.goto (-24), 3) := by decide +kernel
theorem dX10_weighPlaces_39 : decode cX10_weighPlaces 39 = .ok (.return_, 1) := by decide +kernel
theorem dX10_imageOf_0 : decode cX10_imageOf 0 = .ok (.iconst 0, 1) := by decide +kernel
theorem dX10_imageOf_1 : decode cX10_imageOf 1 = .ok (.istore_n 2, 1) := by decide +kernel
theorem dX10_imageOf_2 : decode cX10_imageOf 2 = .ok (.iconst 0, 1) := by decide +kernel
theorem dX10_imageOf_3 : decode cX10_imageOf 3 = .ok (.istore_n 3, 1) := by decide +kernel
theorem dX10_imageOf_4 : decode cX10_imageOf 4 = .ok (.iload_n 3, 1) := by decide +kernel
theorem dX10_imageOf_5 : decode cX10_imageOf 5 = .ok (.aload_n 0, 1) := by decide +kernel
theorem dX10_imageOf_6 : decode cX10_imageOf 6 = .ok (.getfield 21, 3) := by decide +kernel
theorem dX10_imageOf_9 : decode cX10_imageOf 9 = .ok (.getfield 28, 3) := by decide +kernel
theorem dX10_imageOf_12 : decode cX10_imageOf 12 = .ok (.if_icmp .ge 38, 3) := by decide +kernel
theorem dX10_imageOf_15 : decode cX10_imageOf 15 = .ok (.iload_n 2, 1) := by decide +kernel
theorem dX10_imageOf_16 : decode cX10_imageOf 16 = .ok (.aload_n 0, 1) := by decide +kernel
theorem dX10_imageOf_17 : decode cX10_imageOf 17 = .ok (.getfield 18, 3) := by decide +kernel
theorem dX10_imageOf_20 : decode cX10_imageOf 20 = .ok (.aload_n 0, 1) := by decide +kernel
theorem dX10_imageOf_21 : decode cX10_imageOf 21 = .ok (.getfield 9, 3) := by decide +kernel
theorem dX10_imageOf_24 : decode cX10_imageOf 24 = .ok (.iload_n 3, 1) := by decide +kernel
theorem dX10_imageOf_25 : decode cX10_imageOf 25 = .ok (.iaload, 1) := by decide +kernel
theorem dX10_imageOf_26 : decode cX10_imageOf 26 = .ok (.iaload, 1) := by decide +kernel
theorem dX10_imageOf_27 : decode cX10_imageOf 27 = .ok (.aload_n 0, 1) := by decide +kernel
theorem dX10_imageOf_28 : decode cX10_imageOf 28 = .ok (.getfield 15, 3) := by decide +kernel
theorem dX10_imageOf_31 : decode cX10_imageOf 31 = .ok (.aload_n 0, 1) := by decide +kernel
theorem dX10_imageOf_32 : decode cX10_imageOf 32 = .ok (.getfield 21, 3) := by decide +kernel
theorem dX10_imageOf_35 : decode cX10_imageOf 35 = .ok (.iload_n 1, 1) := by decide +kernel
theorem dX10_imageOf_36 : decode cX10_imageOf 36 = .ok (.iload_n 3, 1) := by decide +kernel
theorem dX10_imageOf_37 : decode cX10_imageOf 37 = .ok (.invokevirtual 53, 3) := by decide +kernel
theorem dX10_imageOf_40 : decode cX10_imageOf 40 = .ok (.iaload, 1) := by decide +kernel
theorem dX10_imageOf_41 : decode cX10_imageOf 41 = .ok (.imul, 1) := by decide +kernel
theorem dX10_imageOf_42 : decode cX10_imageOf 42 = .ok (.iadd, 1) := by decide +kernel
theorem dX10_imageOf_43 : decode cX10_imageOf 43 = .ok (.istore_n 2, 1) := by decide +kernel
theorem dX10_imageOf_44 : decode cX10_imageOf 44 = .ok (.iinc 3 1, 3) := by decide +kernel
theorem dX10_imageOf_47 : decode cX10_imageOf 47 = .ok (.goto (-43), 3) := by decide +kernel
theorem dX10_imageOf_50 : decode cX10_imageOf 50 = .ok (.iload_n 2, 1) := by decide +kernel
theorem dX10_imageOf_51 : decode cX10_imageOf 51 = .ok (.ireturn, 1) := by decide +kernel
theorem dX10_keepsLeft_0 : decode cX10_keepsLeft 0 = .ok (.iconst 0, 1) := by decide +kernel
theorem dX10_keepsLeft_1 : decode cX10_keepsLeft 1 = .ok (.istore_n 2, 1) := by decide +kernel
theorem dX10_keepsLeft_2 : decode cX10_keepsLeft 2 = .ok (.iload_n 2, 1) := by decide +kernel
theorem dX10_keepsLeft_3 : decode cX10_keepsLeft 3 = .ok (.aload_n 1, 1) := by decide +kernel
theorem dX10_keepsLeft_4 : decode cX10_keepsLeft 4 = .ok (.getfield 57, 3) := by decide +kernel
theorem dX10_keepsLeft_7 : decode cX10_keepsLeft 7 = .ok (.if_icmp .ge 28, 3) := by decide +kernel
theorem dX10_keepsLeft_10 : decode cX10_keepsLeft 10 = .ok (.aload_n 1, 1) := by decide +kernel
theorem dX10_keepsLeft_11 : decode cX10_keepsLeft 11 = .ok (.aload_n 0, 1) := by decide +kernel
theorem dX10_keepsLeft_12 : decode cX10_keepsLeft 12 = .ok (.aload_n 1, 1) := by decide +kernel
theorem dX10_keepsLeft_13 : decode cX10_keepsLeft 13 = .ok (.getfield 62, 3) := by decide +kernel
theorem dX10_keepsLeft_16 : decode cX10_keepsLeft 16 = .ok (.iload_n 2, 1) := by decide +kernel
theorem dX10_keepsLeft_17 : decode cX10_keepsLeft 17 = .ok (.iaload, 1) := by decide +kernel
theorem dX10_keepsLeft_18 : decode cX10_keepsLeft 18 = .ok (.invokevirtual 41, 3) := by decide +kernel
theorem dX10_keepsLeft_21 : decode cX10_keepsLeft 21 = .ok (.invokevirtual 65, 3) := by decide +kernel
theorem dX10_keepsLeft_24 : decode cX10_keepsLeft 24 = .ok (.ifCond .ne 5, 3) := by decide +kernel
theorem dX10_keepsLeft_27 : decode cX10_keepsLeft 27 = .ok (.iconst 0, 1) := by decide +kernel
theorem dX10_keepsLeft_28 : decode cX10_keepsLeft 28 = .ok (.ireturn, 1) := by decide +kernel
theorem dX10_keepsLeft_29 : decode cX10_keepsLeft 29 = .ok (.iinc 2 1, 3) := by decide +kernel
theorem dX10_keepsLeft_32 : decode cX10_keepsLeft 32 = .ok (.goto (-30), 3) := by decide +kernel
theorem dX10_keepsLeft_35 : decode cX10_keepsLeft 35 = .ok (.iconst 1, 1) := by decide +kernel
theorem dX10_keepsLeft_36 : decode cX10_keepsLeft 36 = .ok (.ireturn, 1) := by decide +kernel
theorem dX10_startOrders_0 : decode cX10_startOrders 0 = .ok (.iconst 1, 1) := by decide +kernel
theorem dX10_startOrders_1 : decode cX10_startOrders 1 = .ok (.istore_n 2, 1) := by decide +kernel
theorem dX10_startOrders_2 : decode cX10_startOrders 2 = .ok (.iconst 0, 1) := by decide +kernel
theorem dX10_startOrders_3 : decode cX10_startOrders 3 = .ok (.istore_n 3, 1) := by decide +kernel
theorem dX10_startOrders_4 : decode cX10_startOrders 4 = .ok (.iload_n 3, 1) := by decide +kernel
theorem dX10_startOrders_5 : decode cX10_startOrders 5 = .ok (.iload_n 1, 1) := by decide +kernel
theorem dX10_startOrders_6 : decode cX10_startOrders 6 = .ok (.if_icmp .ge 19, 3) := by decide +kernel
theorem dX10_startOrders_9 : decode cX10_startOrders 9 = .ok (.aload_n 0, 1) := by decide +kernel
theorem dX10_startOrders_10 : decode cX10_startOrders 10 = .ok (.iload_n 3, 1) := by decide +kernel
theorem dX10_startOrders_11 : decode cX10_startOrders 11 = .ok (.iload_n 3, 1) := by decide +kernel
theorem dX10_startOrders_12 : decode cX10_startOrders 12 = .ok (.iastore, 1) := by decide +kernel
theorem dX10_startOrders_13 : decode cX10_startOrders 13 = .ok (.iload_n 2, 1) := by decide +kernel
theorem dX10_startOrders_14 : decode cX10_startOrders 14 = .ok (.iload_n 3, 1) := by decide +kernel
theorem dX10_startOrders_15 : decode cX10_startOrders 15 = .ok (.iconst 1, 1) := by decide +kernel
theorem dX10_startOrders_16 : decode cX10_startOrders 16 = .ok (.iadd, 1) := by decide +kernel
theorem dX10_startOrders_17 : decode cX10_startOrders 17 = .ok (.imul, 1) := by decide +kernel
theorem dX10_startOrders_18 : decode cX10_startOrders 18 = .ok (.istore_n 2, 1) := by decide +kernel
theorem dX10_startOrders_19 : decode cX10_startOrders 19 = .ok (.iinc 3 1, 3) := by decide +kernel
theorem dX10_startOrders_22 : decode cX10_startOrders 22 = .ok (.goto (-18), 3) := by decide +kernel
theorem dX10_startOrders_25 : decode cX10_startOrders 25 = .ok (.iload_n 2, 1) := by decide +kernel
theorem dX10_startOrders_26 : decode cX10_startOrders 26 = .ok (.ireturn, 1) := by decide +kernel
theorem dX10_stepOrder_0 : decode cX10_stepOrder 0 = .ok (.iload_n 1, 1) := by decide +kernel
theorem dX10_stepOrder_1 : decode cX10_stepOrder 1 = .ok (.iconst 2, 1) := by decide +kernel
theorem dX10_stepOrder_2 : decode cX10_stepOrder 2 = .ok (.isub, 1) := by decide +kernel
theorem dX10_stepOrder_3 : decode cX10_stepOrder 3 = .ok (.istore_n 2, 1) := by decide +kernel
theorem dX10_stepOrder_4 : decode cX10_stepOrder 4 = .ok (.iload_n 2, 1) := by decide +kernel
theorem dX10_stepOrder_5 : decode cX10_stepOrder 5 = .ok (.ifCond .lt 20, 3) := by decide +kernel
theorem dX10_stepOrder_8 : decode cX10_stepOrder 8 = .ok (.aload_n 0, 1) := by decide +kernel
theorem dX10_stepOrder_9 : decode cX10_stepOrder 9 = .ok (.iload_n 2, 1) := by decide +kernel
theorem dX10_stepOrder_10 : decode cX10_stepOrder 10 = .ok (.iaload, 1) := by decide +kernel
theorem dX10_stepOrder_11 : decode cX10_stepOrder 11 = .ok (.aload_n 0, 1) := by decide +kernel
theorem dX10_stepOrder_12 : decode cX10_stepOrder 12 = .ok (.iload_n 2, 1) := by decide +kernel
theorem dX10_stepOrder_13 : decode cX10_stepOrder 13 = .ok (.iconst 1, 1) := by decide +kernel
theorem dX10_stepOrder_14 : decode cX10_stepOrder 14 = .ok (.iadd, 1) := by decide +kernel
theorem dX10_stepOrder_15 : decode cX10_stepOrder 15 = .ok (.iaload, 1) := by decide +kernel
theorem dX10_stepOrder_16 : decode cX10_stepOrder 16 = .ok (.if_icmp .le 9, 3) := by decide +kernel
theorem dX10_stepOrder_19 : decode cX10_stepOrder 19 = .ok (.iinc 2 (-1), 3) := by decide +kernel
theorem dX10_stepOrder_22 : decode cX10_stepOrder 22 = .ok (.goto (-18), 3) := by decide +kernel
theorem dX10_stepOrder_25 : decode cX10_stepOrder 25 = .ok (.iload_n 2, 1) := by decide +kernel
theorem dX10_stepOrder_26 : decode cX10_stepOrder 26 = .ok (.ifCond .ge 4, 3) := by decide +kernel
theorem dX10_stepOrder_29 : decode cX10_stepOrder 29 = .ok (.return_, 1) := by decide +kernel
theorem dX10_stepOrder_30 : decode cX10_stepOrder 30 = .ok (.iload_n 1, 1) := by decide +kernel
theorem dX10_stepOrder_31 : decode cX10_stepOrder 31 = .ok (.iconst 1, 1) := by decide +kernel
theorem dX10_stepOrder_32 : decode cX10_stepOrder 32 = .ok (.isub, 1) := by decide +kernel
theorem dX10_stepOrder_33 : decode cX10_stepOrder 33 = .ok (.istore_n 3, 1) := by decide +kernel
theorem dX10_stepOrder_34 : decode cX10_stepOrder 34 = .ok (.iload_n 3, 1) := by decide +kernel
theorem dX10_stepOrder_35 : decode cX10_stepOrder 35 = .ok (.iload_n 2, 1) := by decide +kernel
theorem dX10_stepOrder_36 : decode cX10_stepOrder 36 = .ok (.if_icmp .le 18, 3) := by decide +kernel
theorem dX10_stepOrder_39 : decode cX10_stepOrder 39 = .ok (.aload_n 0, 1) := by decide +kernel
theorem dX10_stepOrder_40 : decode cX10_stepOrder 40 = .ok (.iload_n 3, 1) := by decide +kernel
theorem dX10_stepOrder_41 : decode cX10_stepOrder 41 = .ok (.iaload, 1) := by decide +kernel
theorem dX10_stepOrder_42 : decode cX10_stepOrder 42 = .ok (.aload_n 0, 1) := by decide +kernel
theorem dX10_stepOrder_43 : decode cX10_stepOrder 43 = .ok (.iload_n 2, 1) := by decide +kernel
theorem dX10_stepOrder_44 : decode cX10_stepOrder 44 = .ok (.iaload, 1) := by decide +kernel
theorem dX10_stepOrder_45 : decode cX10_stepOrder 45 = .ok (.if_icmp .ge 9, 3) := by decide +kernel
theorem dX10_stepOrder_48 : decode cX10_stepOrder 48 = .ok (.iinc 3 (-1), 3) := by decide +kernel
theorem dX10_stepOrder_51 : decode cX10_stepOrder 51 = .ok (.goto (-17), 3) := by decide +kernel
theorem dX10_stepOrder_54 : decode cX10_stepOrder 54 = .ok (.aload_n 0, 1) := by decide +kernel
theorem dX10_stepOrder_55 : decode cX10_stepOrder 55 = .ok (.iload_n 2, 1) := by decide +kernel
theorem dX10_stepOrder_56 : decode cX10_stepOrder 56 = .ok (.iload_n 3, 1) := by decide +kernel
theorem dX10_stepOrder_57 : decode cX10_stepOrder 57 = .ok (.invokestatic 69, 3) := by decide +kernel
theorem dX10_stepOrder_60 : decode cX10_stepOrder 60 = .ok (.iload_n 2, 1) := by decide +kernel
theorem dX10_stepOrder_61 : decode cX10_stepOrder 61 = .ok (.iconst 1, 1) := by decide +kernel
theorem dX10_stepOrder_62 : decode cX10_stepOrder 62 = .ok (.iadd, 1) := by decide +kernel
theorem dX10_stepOrder_63 : decode cX10_stepOrder 63 = .ok (.istore 4, 2) := by decide +kernel
theorem dX10_stepOrder_65 : decode cX10_stepOrder 65 = .ok (.iload_n 1, 1) := by decide +kernel
theorem dX10_stepOrder_66 : decode cX10_stepOrder 66 = .ok (.iconst 1, 1) := by decide +kernel
theorem dX10_stepOrder_67 : decode cX10_stepOrder 67 = .ok (.isub, 1) := by decide +kernel
theorem dX10_stepOrder_68 : decode cX10_stepOrder 68 = .ok (.istore 5, 2) := by decide +kernel
theorem dX10_stepOrder_70 : decode cX10_stepOrder 70 = .ok (.iload 4, 2) := by decide +kernel
theorem dX10_stepOrder_72 : decode cX10_stepOrder 72 = .ok (.iload 5, 2) := by decide +kernel
theorem dX10_stepOrder_74 : decode cX10_stepOrder 74 = .ok (.if_icmp .ge 20, 3) := by decide +kernel
theorem dX10_stepOrder_77 : decode cX10_stepOrder 77 = .ok (.aload_n 0, 1) := by decide +kernel
theorem dX10_stepOrder_78 : decode cX10_stepOrder 78 = .ok (.iload 4, 2) := by decide +kernel
theorem dX10_stepOrder_80 : decode cX10_stepOrder 80 = .ok (.iload 5, 2) := by decide +kernel
theorem dX10_stepOrder_82 : decode cX10_stepOrder 82 = .ok (.invokestatic 69, 3) := by decide +kernel
theorem dX10_stepOrder_85 : decode cX10_stepOrder 85 = .ok (.iinc 4 1, 3) := by decide +kernel
theorem dX10_stepOrder_88 : decode cX10_stepOrder 88 = .ok (.iinc 5 (-1), 3) := by decide +kernel
theorem dX10_stepOrder_91 : decode cX10_stepOrder 91 = .ok (.goto (-21), 3) := by decide +kernel
theorem dX10_stepOrder_94 : decode cX10_stepOrder 94 = .ok (.return_, 1) := by decide +kernel
theorem dX10_exchange_0 : decode cX10_exchange 0 = .ok (.aload_n 0, 1) := by decide +kernel
theorem dX10_exchange_1 : decode cX10_exchange 1 = .ok (.iload_n 1, 1) := by decide +kernel
theorem dX10_exchange_2 : decode cX10_exchange 2 = .ok (.iaload, 1) := by decide +kernel
theorem dX10_exchange_3 : decode cX10_exchange 3 = .ok (.istore_n 3, 1) := by decide +kernel
theorem dX10_exchange_4 : decode cX10_exchange 4 = .ok (.aload_n 0, 1) := by decide +kernel
theorem dX10_exchange_5 : decode cX10_exchange 5 = .ok (.iload_n 1, 1) := by decide +kernel
theorem dX10_exchange_6 : decode cX10_exchange 6 = .ok (.aload_n 0, 1) := by decide +kernel
theorem dX10_exchange_7 : decode cX10_exchange 7 = .ok (.iload_n 2, 1) := by decide +kernel
theorem dX10_exchange_8 : decode cX10_exchange 8 = .ok (.iaload, 1) := by decide +kernel
theorem dX10_exchange_9 : decode cX10_exchange 9 = .ok (.iastore, 1) := by decide +kernel
theorem dX10_exchange_10 : decode cX10_exchange 10 = .ok (.aload_n 0, 1) := by decide +kernel
theorem dX10_exchange_11 : decode cX10_exchange 11 = .ok (.iload_n 2, 1) := by decide +kernel
theorem dX10_exchange_12 : decode cX10_exchange 12 = .ok (.iload_n 3, 1) := by decide +kernel
theorem dX10_exchange_13 : decode cX10_exchange 13 = .ok (.iastore, 1) := by decide +kernel
theorem dX10_exchange_14 : decode cX10_exchange 14 = .ok (.return_, 1) := by decide +kernel
theorem dX11_init_0 : decode cX11_init 0 = .ok (.aload_n 0, 1) := by decide +kernel
theorem dX11_init_1 : decode cX11_init 1 = .ok (.invokespecial 3, 3) := by decide +kernel
theorem dX11_init_4 : decode cX11_init 4 = .ok (.aload_n 0, 1) := by decide +kernel
theorem dX11_init_5 : decode cX11_init 5 = .ok (.new 9, 3) := by decide +kernel
theorem dX11_init_8 : decode cX11_init 8 = .ok (.dup, 1) := by decide +kernel
theorem dX11_init_9 : decode cX11_init 9 = .ok (.invokespecial 11, 3) := by decide +kernel
theorem dX11_init_12 : decode cX11_init 12 = .ok (.putfield 12, 3) := by decide +kernel
theorem dX11_init_15 : decode cX11_init 15 = .ok (.aload_n 0, 1) := by decide +kernel
theorem dX11_init_16 : decode cX11_init 16 = .ok (.new 16, 3) := by decide +kernel
theorem dX11_init_19 : decode cX11_init 19 = .ok (.dup, 1) := by decide +kernel
theorem dX11_init_20 : decode cX11_init 20 = .ok (.aload_n 0, 1) := by decide +kernel
theorem dX11_init_21 : decode cX11_init 21 = .ok (.getfield 12, 3) := by decide +kernel
theorem dX11_init_24 : decode cX11_init 24 = .ok (.invokespecial 18, 3) := by decide +kernel
theorem dX11_init_27 : decode cX11_init 27 = .ok (.putfield 21, 3) := by decide +kernel
theorem dX11_init_30 : decode cX11_init 30 = .ok (.aload_n 0, 1) := by decide +kernel
theorem dX11_init_31 : decode cX11_init 31 = .ok (.new 25, 3) := by decide +kernel
theorem dX11_init_34 : decode cX11_init 34 = .ok (.dup, 1) := by decide +kernel
theorem dX11_init_35 : decode cX11_init 35 = .ok (.invokespecial 27, 3) := by decide +kernel
theorem dX11_init_38 : decode cX11_init 38 = .ok (.putfield 28, 3) := by decide +kernel
theorem dX11_init_41 : decode cX11_init 41 = .ok (.aload_n 0, 1) := by decide +kernel
theorem dX11_init_42 : decode cX11_init 42 = .ok (.new 32, 3) := by decide +kernel
theorem dX11_init_45 : decode cX11_init 45 = .ok (.dup, 1) := by decide +kernel
theorem dX11_init_46 : decode cX11_init 46 = .ok (.invokespecial 34, 3) := by decide +kernel
theorem dX11_init_49 : decode cX11_init 49 = .ok (.putfield 35, 3) := by decide +kernel
theorem dX11_init_52 : decode cX11_init 52 = .ok (.aload_n 0, 1) := by decide +kernel
theorem dX11_init_53 : decode cX11_init 53 = .ok (.new 39, 3) := by decide +kernel
theorem dX11_init_56 : decode cX11_init 56 = .ok (.dup, 1) := by decide +kernel
theorem dX11_init_57 : decode cX11_init 57 = .ok (.invokespecial 41, 3) := by decide +kernel
theorem dX11_init_60 : decode cX11_init 60 = .ok (.putfield 42, 3) := by decide +kernel
theorem dX11_init_63 : decode cX11_init 63 = .ok (.aload_n 0, 1) := by decide +kernel
theorem dX11_init_64 : decode cX11_init 64 = .ok (.new 46, 3) := by decide +kernel
theorem dX11_init_67 : decode cX11_init 67 = .ok (.dup, 1) := by decide +kernel
theorem dX11_init_68 : decode cX11_init 68 = .ok (.aload_n 0, 1) := by decide +kernel
theorem dX11_init_69 : decode cX11_init 69 = .ok (.getfield 12, 3) := by decide +kernel
theorem dX11_init_72 : decode cX11_init 72 = .ok (.invokespecial 48, 3) := by decide +kernel
theorem dX11_init_75 : decode cX11_init 75 = .ok (.putfield 49, 3) := by decide +kernel
theorem dX11_init_78 : decode cX11_init 78 = .ok (.aload_n 0, 1) := by decide +kernel
theorem dX11_init_79 : decode cX11_init 79 = .ok (.new 53, 3) := by decide +kernel
theorem dX11_init_82 : decode cX11_init 82 = .ok (.dup, 1) := by decide +kernel
theorem dX11_init_83 : decode cX11_init 83 = .ok (.aload_n 0, 1) := by decide +kernel
theorem dX11_init_84 : decode cX11_init 84 = .ok (.getfield 12, 3) := by decide +kernel
theorem dX11_init_87 : decode cX11_init 87 = .ok (.iconst 1, 1) := by decide +kernel
theorem dX11_init_88 : decode cX11_init 88 = .ok (.invokespecial 55, 3) := by decide +kernel
theorem dX11_init_91 : decode cX11_init 91 = .ok (.putfield 58, 3) := by decide +kernel
theorem dX11_init_94 : decode cX11_init 94 = .ok (.aload_n 0, 1) := by decide +kernel
theorem dX11_init_95 : decode cX11_init 95 = .ok (.new 53, 3) := by decide +kernel
theorem dX11_init_98 : decode cX11_init 98 = .ok (.dup, 1) := by decide +kernel
theorem dX11_init_99 : decode cX11_init 99 = .ok (.aload_n 0, 1) := by decide +kernel
theorem dX11_init_100 : decode cX11_init 100 = .ok (.getfield 12, 3) := by decide +kernel
theorem dX11_init_103 : decode cX11_init 103 = .ok (.iconst 0, 1) := by decide +kernel
theorem dX11_init_104 : decode cX11_init 104 = .ok (.invokespecial 55, 3) := by decide +kernel
theorem dX11_init_107 : decode cX11_init 107 = .ok (.putfield 62, 3) := by decide +kernel
theorem dX11_init_110 : decode cX11_init 110 = .ok (.aload_n 0, 1) := by decide +kernel
theorem dX11_init_111 : decode cX11_init 111 = .ok (.new 65, 3) := by decide +kernel
theorem dX11_init_114 : decode cX11_init 114 = .ok (.dup, 1) := by decide +kernel
theorem dX11_init_115 : decode cX11_init 115 = .ok (.invokespecial 67, 3) := by decide +kernel
theorem dX11_init_118 : decode cX11_init 118 = .ok (.putfield 68, 3) := by decide +kernel
theorem dX11_init_121 : decode cX11_init 121 = .ok (.aload_n 0, 1) := by decide +kernel
theorem dX11_init_122 : decode cX11_init 122 = .ok (.new 72, 3) := by decide +kernel
theorem dX11_init_125 : decode cX11_init 125 = .ok (.dup, 1) := by decide +kernel
theorem dX11_init_126 : decode cX11_init 126 = .ok (.invokespecial 74, 3) := by decide +kernel
theorem dX11_init_129 : decode cX11_init 129 = .ok (.putfield 75, 3) := by decide +kernel
theorem dX11_init_132 : decode cX11_init 132 = .ok (.aload_n 0, 1) := by decide +kernel
theorem dX11_init_133 : decode cX11_init 133 = .ok (.bipush 6, 2) := by decide +kernel
theorem dX11_init_135 : decode cX11_init 135 = .ok (.anewarray 79, 3) := by decide +kernel
theorem dX11_init_138 : decode cX11_init 138 = .ok (.putfield 81, 3) := by decide +kernel
theorem dX11_init_141 : decode cX11_init 141 = .ok (.iconst 0, 1) := by decide +kernel
theorem dX11_init_142 : decode cX11_init 142 = .ok (.istore_n 1, 1) := by decide +kernel
theorem dX11_init_143 : decode cX11_init 143 = .ok (.iload_n 1, 1) := by decide +kernel
theorem dX11_init_144 : decode cX11_init 144 = .ok (.bipush 6, 2) := by decide +kernel
theorem dX11_init_146 : decode cX11_init 146 = .ok (.if_icmp .ge 22, 3) := by decide +kernel
theorem dX11_init_149 : decode cX11_init 149 = .ok (.aload_n 0, 1) := by decide +kernel
theorem dX11_init_150 : decode cX11_init 150 = .ok (.getfield 81, 3) := by decide +kernel
theorem dX11_init_153 : decode cX11_init 153 = .ok (.iload_n 1, 1) := by decide +kernel
theorem dX11_init_154 : decode cX11_init 154 = .ok (.new 79, 3) := by decide +kernel
theorem dX11_init_157 : decode cX11_init 157 = .ok (.dup, 1) := by decide +kernel
theorem dX11_init_158 : decode cX11_init 158 = .ok (.invokespecial 85, 3) := by decide +kernel
theorem dX11_init_161 : decode cX11_init 161 = .ok (.aastore, 1) := by decide +kernel
theorem dX11_init_162 : decode cX11_init 162 = .ok (.iinc 1 1, 3) := by decide +kernel
theorem dX11_init_165 : decode cX11_init 165 = .ok (.goto (-22), 3) := by decide +kernel
theorem dX11_init_168 : decode cX11_init 168 = .ok (.aload_n 0, 1) := by decide +kernel
theorem dX11_init_169 : decode cX11_init 169 = .ok (.iconst 3, 1) := by decide +kernel
theorem dX11_init_170 : decode cX11_init 170 = .ok (.iconst 4, 1) := by decide +kernel
theorem dX11_init_171 : decode cX11_init 171 = .ok (.invokevirtual 86, 3) := by decide +kernel
theorem dX11_init_174 : decode cX11_init 174 = .ok (.return_, 1) := by decide +kernel
theorem dX11_begin_0 : decode cX11_begin 0 = .ok (.iload_n 1, 1) := by decide +kernel
theorem dX11_begin_1 : decode cX11_begin 1 = .ok (.iconst 1, 1) := by decide +kernel
theorem dX11_begin_2 : decode cX11_begin 2 = .ok (.if_icmp .lt 19, 3) := by decide +kernel
theorem dX11_begin_5 : decode cX11_begin 5 = .ok (.iload_n 1, 1) := by decide +kernel
theorem dX11_begin_6 : decode cX11_begin 6 = .ok (.iconst 5, 1) := by decide +kernel
theorem dX11_begin_7 : decode cX11_begin 7 = .ok (.if_icmp .gt 14, 3) := by decide +kernel
theorem dX11_begin_10 : decode cX11_begin 10 = .ok (.iload_n 2, 1) := by decide +kernel
theorem dX11_begin_11 : decode cX11_begin 11 = .ok (.iconst 1, 1) := by decide +kernel
theorem dX11_begin_12 : decode cX11_begin 12 = .ok (.if_icmp .lt 9, 3) := by decide +kernel
theorem dX11_begin_15 : decode cX11_begin 15 = .ok (.iload_n 2, 1) := by decide +kernel
theorem dX11_begin_16 : decode cX11_begin 16 = .ok (.bipush 8, 2) := by decide +kernel
theorem dX11_begin_18 : decode cX11_begin 18 = .ok (.if_icmp .le 5, 3) := by decide +kernel
theorem dX11_begin_21 : decode cX11_begin 21 = .ok (.iconst (-1), 1) := by decide +kernel
theorem dX11_begin_22 : decode cX11_begin 22 = .ok (.ireturn, 1) := by decide +kernel
theorem dX11_begin_23 : decode cX11_begin 23 = .ok (.iload_n 1, 1) := by decide +kernel
theorem dX11_begin_24 : decode cX11_begin 24 = .ok (.iload_n 2, 1) := by decide +kernel
theorem dX11_begin_25 : decode cX11_begin 25 = .ok (.invokestatic 90, 3) := by decide +kernel
theorem dX11_begin_28 : decode cX11_begin 28 = .ok (.sipush 4096, 3) := by decide +kernel
theorem dX11_begin_31 : decode cX11_begin 31 = .ok (.if_icmp .le 6, 3) := by decide +kernel
theorem dX11_begin_34 : decode cX11_begin 34 = .ok (.bipush (-5), 2) := by decide +kernel
theorem dX11_begin_36 : decode cX11_begin 36 = .ok (.ireturn, 1) := by decide +kernel
theorem dX11_begin_37 : decode cX11_begin 37 = .ok (.aload_n 0, 1) := by decide +kernel
theorem dX11_begin_38 : decode cX11_begin 38 = .ok (.iload_n 1, 1) := by decide +kernel
theorem dX11_begin_39 : decode cX11_begin 39 = .ok (.iload_n 2, 1) := by decide +kernel
theorem dX11_begin_40 : decode cX11_begin 40 = .ok (.invokevirtual 86, 3) := by decide +kernel
theorem dX11_begin_43 : decode cX11_begin 43 = .ok (.aload_n 0, 1) := by decide +kernel
theorem dX11_begin_44 : decode cX11_begin 44 = .ok (.getfield 12, 3) := by decide +kernel
theorem dX11_begin_47 : decode cX11_begin 47 = .ok (.getfield 94, 3) := by decide +kernel
theorem dX11_begin_50 : decode cX11_begin 50 = .ok (.ireturn, 1) := by decide +kernel
theorem dX11_startAnew_0 : decode cX11_startAnew 0 = .ok (.aload_n 0, 1) := by decide +kernel
theorem dX11_startAnew_1 : decode cX11_startAnew 1 = .ok (.getfield 12, 3) := by decide +kernel
theorem dX11_startAnew_4 : decode cX11_startAnew 4 = .ok (.iload_n 1, 1) := by decide +kernel
theorem dX11_startAnew_5 : decode cX11_startAnew 5 = .ok (.iload_n 2, 1) := by decide +kernel
theorem dX11_startAnew_6 : decode cX11_startAnew 6 = .ok (.invokevirtual 98, 3) := by decide +kernel
theorem dX11_startAnew_9 : decode cX11_startAnew 9 = .ok (.aload_n 0, 1) := by decide +kernel
theorem dX11_startAnew_10 : decode cX11_startAnew 10 = .ok (.getfield 21, 3) := by decide +kernel
theorem dX11_startAnew_13 : decode cX11_startAnew 13 = .ok (.invokevirtual 101, 3) := by decide +kernel
theorem dX11_startAnew_16 : decode cX11_startAnew 16 = .ok (.aload_n 0, 1) := by decide +kernel
theorem dX11_startAnew_17 : decode cX11_startAnew 17 = .ok (.getfield 28, 3) := by decide +kernel
theorem dX11_startAnew_20 : decode cX11_startAnew 20 = .ok (.iconst (-1), 1) := by decide +kernel
theorem dX11_startAnew_21 : decode cX11_startAnew 21 = .ok (.invokevirtual 103, 3) := by decide +kernel
theorem dX11_startAnew_24 : decode cX11_startAnew 24 = .ok (.aload_n 0, 1) := by decide +kernel
theorem dX11_startAnew_25 : decode cX11_startAnew 25 = .ok (.getfield 28, 3) := by decide +kernel
theorem dX11_startAnew_28 : decode cX11_startAnew 28 = .ok (.iload_n 1, 1) := by decide +kernel
theorem dX11_startAnew_29 : decode cX11_startAnew 29 = .ok (.iload_n 2, 1) := by decide +kernel
theorem dX11_startAnew_30 : decode cX11_startAnew 30 = .ok (.invokevirtual 107, 3) := by decide +kernel
theorem dX11_startAnew_33 : decode cX11_startAnew 33 = .ok (.aload_n 0, 1) := by decide +kernel
theorem dX11_startAnew_34 : decode cX11_startAnew 34 = .ok (.getfield 68, 3) := by decide +kernel
theorem dX11_startAnew_37 : decode cX11_startAnew 37 = .ok (.iconst 0, 1) := by decide +kernel
theorem dX11_startAnew_38 : decode cX11_startAnew 38 = .ok (.putfield 110, 3) := by decide +kernel
theorem dX11_startAnew_41 : decode cX11_startAnew 41 = .ok (.aload_n 0, 1) := by decide +kernel
theorem dX11_startAnew_42 : decode cX11_startAnew 42 = .ok (.getfield 75, 3) := by decide +kernel
theorem dX11_startAnew_45 : decode cX11_startAnew 45 = .ok (.invokevirtual 113, 3) := by decide +kernel
theorem dX11_startAnew_48 : decode cX11_startAnew 48 = .ok (.aload_n 0, 1) := by decide +kernel
theorem dX11_startAnew_49 : decode cX11_startAnew 49 = .ok (.iconst 0, 1) := by decide +kernel
theorem dX11_startAnew_50 : decode cX11_startAnew 50 = .ok (.putfield 116, 3) := by decide +kernel
theorem dX11_startAnew_53 : decode cX11_startAnew 53 = .ok (.return_, 1) := by decide +kernel
theorem dX11_law_0 : decode cX11_law 0 = .ok (.iload_n 1, 1) := by decide +kernel
theorem dX11_law_1 : decode cX11_law 1 = .ok (.ifCond .lt 8, 3) := by decide +kernel
theorem dX11_law_4 : decode cX11_law 4 = .ok (.iload_n 1, 1) := by decide +kernel
theorem dX11_law_5 : decode cX11_law 5 = .ok (.iconst 3, 1) := by decide +kernel
theorem dX11_law_6 : decode cX11_law 6 = .ok (.if_icmp .le 5, 3) := by decide +kernel
theorem dX11_law_9 : decode cX11_law 9 = .ok (.iconst (-1), 1) := by decide +kernel
theorem dX11_law_10 : decode cX11_law 10 = .ok (.ireturn, 1) := by decide +kernel
theorem dX11_law_11 : decode cX11_law 11 = .ok (.aload_n 0, 1) := by decide +kernel
theorem dX11_law_12 : decode cX11_law 12 = .ok (.getfield 21, 3) := by decide +kernel
theorem dX11_law_15 : decode cX11_law 15 = .ok (.getfield 119, 3) := by decide +kernel
theorem dX11_law_18 : decode cX11_law 18 = .ok (.ifCond .le 6, 3) := by decide +kernel
theorem dX11_law_21 : decode cX11_law 21 = .ok (.bipush (-3), 2) := by decide +kernel
theorem dX11_law_23 : decode cX11_law 23 = .ok (.ireturn, 1) := by decide +kernel
theorem dX11_law_24 : decode cX11_law 24 = .ok (.aload_n 0, 1) := by decide +kernel
theorem dX11_law_25 : decode cX11_law 25 = .ok (.getfield 21, 3) := by decide +kernel
theorem dX11_law_28 : decode cX11_law 28 = .ok (.iload_n 1, 1) := by decide +kernel
theorem dX11_law_29 : decode cX11_law 29 = .ok (.iload_n 2, 1) := by decide +kernel
theorem dX11_law_30 : decode cX11_law 30 = .ok (.invokevirtual 122, 3) := by decide +kernel
theorem dX11_law_33 : decode cX11_law 33 = .ok (.aload_n 0, 1) := by decide +kernel
theorem dX11_law_34 : decode cX11_law 34 = .ok (.getfield 21, 3) := by decide +kernel
theorem dX11_law_37 : decode cX11_law 37 = .ok (.getfield 125, 3) := by decide +kernel
theorem dX11_law_40 : decode cX11_law 40 = .ok (.ireturn, 1) := by decide +kernel
theorem dX11_enlist_0 : decode cX11_enlist 0 = .ok (.aload_n 0, 1) := by decide +kernel
theorem dX11_enlist_1 : decode cX11_enlist 1 = .ok (.getfield 12, 3) := by decide +kernel
theorem dX11_enlist_4 : decode cX11_enlist 4 = .ok (.iload_n 1, 1) := by decide +kernel
theorem dX11_enlist_5 : decode cX11_enlist 5 = .ok (.invokevirtual 128, 3) := by decide +kernel
theorem dX11_enlist_8 : decode cX11_enlist 8 = .ok (.ifCond .ne 5, 3) := by decide +kernel
theorem dX11_enlist_11 : decode cX11_enlist 11 = .ok (.iconst (-1), 1) := by decide +kernel
theorem dX11_enlist_12 : decode cX11_enlist 12 = .ok (.ireturn, 1) := by decide +kernel
theorem dX11_enlist_13 : decode cX11_enlist 13 = .ok (.aload_n 0, 1) := by decide +kernel
theorem dX11_enlist_14 : decode cX11_enlist 14 = .ok (.getfield 21, 3) := by decide +kernel
theorem dX11_enlist_17 : decode cX11_enlist 17 = .ok (.getfield 119, 3) := by decide +kernel
theorem dX11_enlist_20 : decode cX11_enlist 20 = .ok (.ifCond .le 6, 3) := by decide +kernel
theorem dX11_enlist_23 : decode cX11_enlist 23 = .ok (.bipush (-3), 2) := by decide +kernel
theorem dX11_enlist_25 : decode cX11_enlist 25 = .ok (.ireturn, 1) := by decide +kernel
theorem dX11_enlist_26 : decode cX11_enlist 26 = .ok (.aload_n 0, 1) := by decide +kernel
theorem dX11_enlist_27 : decode cX11_enlist 27 = .ok (.getfield 21, 3) := by decide +kernel
theorem dX11_enlist_30 : decode cX11_enlist 30 = .ok (.getfield 132, 3) := by decide +kernel
theorem dX11_enlist_33 : decode cX11_enlist 33 = .ok (.iload_n 1, 1) := by decide +kernel
theorem dX11_enlist_34 : decode cX11_enlist 34 = .ok (.baload, 1) := by decide +kernel
theorem dX11_enlist_35 : decode cX11_enlist 35 = .ok (.ifCond .ne 27, 3) := by decide +kernel
theorem dX11_enlist_38 : decode cX11_enlist 38 = .ok (.aload_n 0, 1) := by decide +kernel
theorem dX11_enlist_39 : decode cX11_enlist 39 = .ok (.getfield 21, 3) := by decide +kernel
theorem dX11_enlist_42 : decode cX11_enlist 42 = .ok (.getfield 136, 3) := by decide +kernel
theorem dX11_enlist_45 : decode cX11_enlist 45 = .ok (.sipush 300, 3) := by decide +kernel
theorem dX11_enlist_48 : decode cX11_enlist 48 = .ok (.if_icmp .lt 6, 3) := by decide +kernel
theorem dX11_enlist_51 : decode cX11_enlist 51 = .ok (.bipush (-2), 2) := by decide +kernel
theorem dX11_enlist_53 : decode cX11_enlist 53 = .ok (.ireturn, 1) := by decide +kernel
theorem dX11_enlist_54 : decode cX11_enlist 54 = .ok (.aload_n 0, 1) := by decide +kernel
theorem dX11_enlist_55 : decode cX11_enlist 55 = .ok (.getfield 21, 3) := by decide +kernel
theorem dX11_enlist_58 : decode cX11_enlist 58 = .ok (.iload_n 1, 1) := by decide +kernel
theorem dX11_enlist_59 : decode cX11_enlist 59 = .ok (.invokevirtual 139, 3) := by decide +kernel
theorem dX11_enlist_62 : decode cX11_enlist 62 = .ok (.aload_n 0, 1) := by decide +kernel
theorem dX11_enlist_63 : decode cX11_enlist 63 = .ok (.getfield 21, 3) := by decide +kernel
theorem dX11_enlist_66 : decode cX11_enlist 66 = .ok (.getfield 136, 3) := by decide +kernel
theorem dX11_enlist_69 : decode cX11_enlist 69 = .ok (.ireturn, 1) := by decide +kernel
theorem dX11_lies_0 : decode cX11_lies 0 = .ok (.iload_n 1, 1) := by decide +kernel
theorem dX11_lies_1 : decode cX11_lies 1 = .ok (.ifCond .lt 8, 3) := by decide +kernel
theorem dX11_lies_4 : decode cX11_lies 4 = .ok (.iload_n 1, 1) := by decide +kernel
theorem dX11_lies_5 : decode cX11_lies 5 = .ok (.iconst 2, 1) := by decide +kernel
theorem dX11_lies_6 : decode cX11_lies 6 = .ok (.if_icmp .le 5, 3) := by decide +kernel
theorem dX11_lies_9 : decode cX11_lies 9 = .ok (.iconst (-1), 1) := by decide +kernel
theorem dX11_lies_10 : decode cX11_lies 10 = .ok (.ireturn, 1) := by decide +kernel
theorem dX11_lies_11 : decode cX11_lies 11 = .ok (.aload_n 0, 1) := by decide +kernel
theorem dX11_lies_12 : decode cX11_lies 12 = .ok (.getfield 21, 3) := by decide +kernel
theorem dX11_lies_15 : decode cX11_lies 15 = .ok (.getfield 119, 3) := by decide +kernel
theorem dX11_lies_18 : decode cX11_lies 18 = .ok (.ifCond .le 6, 3) := by decide +kernel
theorem dX11_lies_21 : decode cX11_lies 21 = .ok (.bipush (-3), 2) := by decide +kernel
theorem dX11_lies_23 : decode cX11_lies 23 = .ok (.ireturn, 1) := by decide +kernel
theorem dX11_lies_24 : decode cX11_lies 24 = .ok (.aload_n 0, 1) := by decide +kernel
theorem dX11_lies_25 : decode cX11_lies 25 = .ok (.getfield 21, 3) := by decide +kernel
theorem dX11_lies_28 : decode cX11_lies 28 = .ok (.getfield 142, 3) := by decide +kernel
theorem dX11_lies_31 : decode cX11_lies 31 = .ok (.istore_n 2, 1) := by decide +kernel
theorem dX11_lies_32 : decode cX11_lies 32 = .ok (.aload_n 0, 1) := by decide +kernel
theorem dX11_lies_33 : decode cX11_lies 33 = .ok (.getfield 21, 3) := by decide +kernel
theorem dX11_lies_36 : decode cX11_lies 36 = .ok (.iload_n 1, 1) := by decide +kernel
theorem dX11_lies_37 : decode cX11_lies 37 = .ok (.invokevirtual 145, 3) := by decide +kernel
theorem dX11_lies_40 : decode cX11_lies 40 = .ok (.iload_n 2, 1) := by decide +kernel
theorem dX11_lies_41 : decode cX11_lies 41 = .ok (.ireturn, 1) := by decide +kernel
theorem dX11_peg_0 : decode cX11_peg 0 = .ok (.aload_n 0, 1) := by decide +kernel
theorem dX11_peg_1 : decode cX11_peg 1 = .ok (.getfield 12, 3) := by decide +kernel
theorem dX11_peg_4 : decode cX11_peg 4 = .ok (.iload_n 1, 1) := by decide +kernel
theorem dX11_peg_5 : decode cX11_peg 5 = .ok (.invokevirtual 148, 3) := by decide +kernel
theorem dX11_peg_8 : decode cX11_peg 8 = .ok (.ifCond .ne 10, 3) := by decide +kernel
theorem dX11_peg_11 : decode cX11_peg 11 = .ok (.aload_n 0, 1) := by decide +kernel
theorem dX11_peg_12 : decode cX11_peg 12 = .ok (.bipush (-13), 2) := by decide +kernel
theorem dX11_peg_14 : decode cX11_peg 14 = .ok (.invokevirtual 151, 3) := by decide +kernel
theorem dX11_peg_17 : decode cX11_peg 17 = .ok (.ireturn, 1) := by decide +kernel
theorem dX11_peg_18 : decode cX11_peg 18 = .ok (.aload_n 0, 1) := by decide +kernel
theorem dX11_peg_19 : decode cX11_peg 19 = .ok (.getfield 12, 3) := by decide +kernel
theorem dX11_peg_22 : decode cX11_peg 22 = .ok (.iload_n 2, 1) := by decide +kernel
theorem dX11_peg_23 : decode cX11_peg 23 = .ok (.invokevirtual 155, 3) := by decide +kernel
theorem dX11_peg_26 : decode cX11_peg 26 = .ok (.ifCond .ne 6, 3) := by decide +kernel
theorem dX11_peg_29 : decode cX11_peg 29 = .ok (.bipush (-16), 2) := by decide +kernel
theorem dX11_peg_31 : decode cX11_peg 31 = .ok (.ireturn, 1) := by decide +kernel
theorem dX11_peg_32 : decode cX11_peg 32 = .ok (.aload_n 0, 1) := by decide +kernel
theorem dX11_peg_33 : decode cX11_peg 33 = .ok (.getfield 28, 3) := by decide +kernel
theorem dX11_peg_36 : decode cX11_peg 36 = .ok (.getfield 158, 3) := by decide +kernel
theorem dX11_peg_39 : decode cX11_peg 39 = .ok (.iload_n 1, 1) := by decide +kernel
theorem dX11_peg_40 : decode cX11_peg 40 = .ok (.iaload, 1) := by decide +kernel
theorem dX11_peg_41 : decode cX11_peg 41 = .ok (.istore_n 3, 1) := by decide +kernel
theorem dX11_peg_42 : decode cX11_peg 42 = .ok (.aload_n 0, 1) := by decide +kernel
theorem dX11_peg_43 : decode cX11_peg 43 = .ok (.getfield 28, 3) := by decide +kernel
theorem dX11_peg_46 : decode cX11_peg 46 = .ok (.getfield 158, 3) := by decide +kernel
theorem dX11_peg_49 : decode cX11_peg 49 = .ok (.iload_n 1, 1) := by decide +kernel
theorem dX11_peg_50 : decode cX11_peg 50 = .ok (.iload_n 2, 1) := by decide +kernel
theorem dX11_peg_51 : decode cX11_peg 51 = .ok (.iastore, 1) := by decide +kernel
theorem dX11_peg_52 : decode cX11_peg 52 = .ok (.aload_n 0, 1) := by decide +kernel
theorem dX11_peg_53 : decode cX11_peg 53 = .ok (.getfield 28, 3) := by decide +kernel
theorem dX11_peg_56 : decode cX11_peg 56 = .ok (.aload_n 0, 1) := by decide +kernel
theorem dX11_peg_57 : decode cX11_peg 57 = .ok (.getfield 12, 3) := by decide +kernel
theorem dX11_peg_60 : decode cX11_peg 60 = .ok (.getfield 162, 3) := by decide +kernel
theorem dX11_peg_63 : decode cX11_peg 63 = .ok (.aload_n 0, 1) := by decide +kernel
theorem dX11_peg_64 : decode cX11_peg 64 = .ok (.getfield 12, 3) := by decide +kernel
theorem dX11_peg_67 : decode cX11_peg 67 = .ok (.getfield 165, 3) := by decide +kernel
theorem dX11_peg_70 : decode cX11_peg 70 = .ok (.invokevirtual 107, 3) := by decide +kernel
theorem dX11_peg_73 : decode cX11_peg 73 = .ok (.iload_n 3, 1) := by decide +kernel
theorem dX11_peg_74 : decode cX11_peg 74 = .ok (.ireturn, 1) := by decide +kernel
theorem dX11_show_0 : decode cX11_show 0 = .ok (.aload_n 0, 1) := by decide +kernel
theorem dX11_show_1 : decode cX11_show 1 = .ok (.getfield 12, 3) := by decide +kernel
theorem dX11_show_4 : decode cX11_show 4 = .ok (.iload_n 1, 1) := by decide +kernel
theorem dX11_show_5 : decode cX11_show 5 = .ok (.invokevirtual 128, 3) := by decide +kernel
theorem dX11_show_8 : decode cX11_show 8 = .ok (.ifCond .ne 5, 3) := by decide +kernel
theorem dX11_show_11 : decode cX11_show 11 = .ok (.iconst (-1), 1) := by decide +kernel
theorem dX11_show_12 : decode cX11_show 12 = .ok (.ireturn, 1) := by decide +kernel
theorem dX11_show_13 : decode cX11_show 13 = .ok (.iconst 0, 1) := by decide +kernel
theorem dX11_show_14 : decode cX11_show 14 = .ok (.istore_n 2, 1) := by decide +kernel
theorem dX11_show_15 : decode cX11_show 15 = .ok (.iload_n 2, 1) := by decide +kernel
theorem dX11_show_16 : decode cX11_show 16 = .ok (.aload_n 0, 1) := by decide +kernel
theorem dX11_show_17 : decode cX11_show 17 = .ok (.getfield 12, 3) := by decide +kernel
theorem dX11_show_20 : decode cX11_show 20 = .ok (.getfield 162, 3) := by decide +kernel
theorem dX11_show_23 : decode cX11_show 23 = .ok (.if_icmp .ge 27, 3) := by decide +kernel
theorem dX11_show_26 : decode cX11_show 26 = .ok (.aload_n 0, 1) := by decide +kernel
theorem dX11_show_27 : decode cX11_show 27 = .ok (.getfield 28, 3) := by decide +kernel
theorem dX11_show_30 : decode cX11_show 30 = .ok (.getfield 158, 3) := by decide +kernel
theorem dX11_show_33 : decode cX11_show 33 = .ok (.iload_n 2, 1) := by decide +kernel
theorem dX11_show_34 : decode cX11_show 34 = .ok (.aload_n 0, 1) := by decide +kernel
theorem dX11_show_35 : decode cX11_show 35 = .ok (.getfield 12, 3) := by decide +kernel
theorem dX11_show_38 : decode cX11_show 38 = .ok (.iload_n 1, 1) := by decide +kernel
theorem dX11_show_39 : decode cX11_show 39 = .ok (.iload_n 2, 1) := by decide +kernel
theorem dX11_show_40 : decode cX11_show 40 = .ok (.invokevirtual 168, 3) := by decide +kernel
theorem dX11_show_43 : decode cX11_show 43 = .ok (.iastore, 1) := by decide +kernel
theorem dX11_show_44 : decode cX11_show 44 = .ok (.iinc 2 1, 3) := by decide +kernel
theorem dX11_show_47 : decode cX11_show 47 = .ok (.goto (-32), 3) := by decide +kernel
theorem dX11_show_50 : decode cX11_show 50 = .ok (.aload_n 0, 1) := by decide +kernel
theorem dX11_show_51 : decode cX11_show 51 = .ok (.getfield 28, 3) := by decide +kernel
theorem dX11_show_54 : decode cX11_show 54 = .ok (.aload_n 0, 1) := by decide +kernel
theorem dX11_show_55 : decode cX11_show 55 = .ok (.getfield 12, 3) := by decide +kernel
theorem dX11_show_58 : decode cX11_show 58 = .ok (.getfield 162, 3) := by decide +kernel
theorem dX11_show_61 : decode cX11_show 61 = .ok (.aload_n 0, 1) := by decide +kernel
theorem dX11_show_62 : decode cX11_show 62 = .ok (.getfield 12, 3) := by decide +kernel
theorem dX11_show_65 : decode cX11_show 65 = .ok (.getfield 165, 3) := by decide +kernel
theorem dX11_show_68 : decode cX11_show 68 = .ok (.invokevirtual 107, 3) := by decide +kernel
theorem dX11_show_71 : decode cX11_show 71 = .ok (.aload_n 0, 1) := by decide +kernel
theorem dX11_show_72 : decode cX11_show 72 = .ok (.invokevirtual 171, 3) := by decide +kernel
theorem dX11_show_75 : decode cX11_show 75 = .ok (.ireturn, 1) := by decide +kernel
theorem dX11_hand_0 : decode cX11_hand 0 = .ok (.aload_n 0, 1) := by decide +kernel
theorem dX11_hand_1 : decode cX11_hand 1 = .ok (.getfield 12, 3) := by decide +kernel
theorem dX11_hand_4 : decode cX11_hand 4 = .ok (.iload_n 1, 1) := by decide +kernel
theorem dX11_hand_5 : decode cX11_hand 5 = .ok (.invokevirtual 148, 3) := by decide +kernel
theorem dX11_hand_8 : decode cX11_hand 8 = .ok (.ifCond .eq 15, 3) := by decide +kernel
theorem dX11_hand_11 : decode cX11_hand 11 = .ok (.aload_n 0, 1) := by decide +kernel
theorem dX11_hand_12 : decode cX11_hand 12 = .ok (.getfield 28, 3) := by decide +kernel
theorem dX11_hand_15 : decode cX11_hand 15 = .ok (.getfield 158, 3) := by decide +kernel
theorem dX11_hand_18 : decode cX11_hand 18 = .ok (.iload_n 1, 1) := by decide +kernel
theorem dX11_hand_19 : decode cX11_hand 19 = .ok (.iaload, 1) := by decide +kernel
theorem dX11_hand_20 : decode cX11_hand 20 = .ok (.goto 9, 3) := by decide +kernel
theorem dX11_hand_23 : decode cX11_hand 23 = .ok (.aload_n 0, 1) := by decide +kernel
theorem dX11_hand_24 : decode cX11_hand 24 = .ok (.bipush (-13), 2) := by decide +kernel
theorem dX11_hand_26 : decode cX11_hand 26 = .ok (.invokevirtual 151, 3) := by decide +kernel
theorem dX11_hand_29 : decode cX11_hand 29 = .ok (.ireturn, 1) := by decide +kernel
theorem dX11_sort_0 : decode cX11_sort 0 = .ok (.aload_n 0, 1) := by decide +kernel
theorem dX11_sort_1 : decode cX11_sort 1 = .ok (.invokevirtual 171, 3) := by decide +kernel
theorem dX11_sort_4 : decode cX11_sort 4 = .ok (.ireturn, 1) := by decide +kernel
theorem dX11_sortOfHand_0 : decode cX11_sortOfHand 0 = .ok (.aload_n 0, 1) := by decide +kernel
theorem dX11_sortOfHand_1 : decode cX11_sortOfHand 1 = .ok (.getfield 12, 3) := by decide +kernel
theorem dX11_sortOfHand_4 : decode cX11_sortOfHand 4 = .ok (.aload_n 0, 1) := by decide +kernel
theorem dX11_sortOfHand_5 : decode cX11_sortOfHand 5 = .ok (.getfield 28, 3) := by decide +kernel
theorem dX11_sortOfHand_8 : decode cX11_sortOfHand 8 = .ok (.invokevirtual 175, 3) := by decide +kernel
theorem dX11_sortOfHand_11 : decode cX11_sortOfHand 11 = .ok (.istore_n 1, 1) := by decide +kernel
theorem dX11_sortOfHand_12 : decode cX11_sortOfHand 12 = .ok (.iload_n 1, 1) := by decide +kernel
theorem dX11_sortOfHand_13 : decode cX11_sortOfHand 13 = .ok (.iconst (-1), 1) := by decide +kernel
theorem dX11_sortOfHand_14 : decode cX11_sortOfHand 14 = .ok (.if_icmp .ne 5, 3) := by decide +kernel
theorem dX11_sortOfHand_17 : decode cX11_sortOfHand 17 = .ok (.iconst 3, 1) := by decide +kernel
theorem dX11_sortOfHand_18 : decode cX11_sortOfHand 18 = .ok (.ireturn, 1) := by decide +kernel
theorem dX11_sortOfHand_19 : decode cX11_sortOfHand 19 = .ok (.aload_n 0, 1) := by decide +kernel
theorem dX11_sortOfHand_20 : decode cX11_sortOfHand 20 = .ok (.getfield 21, 3) := by decide +kernel
theorem dX11_sortOfHand_23 : decode cX11_sortOfHand 23 = .ok (.iload_n 1, 1) := by decide +kernel
theorem dX11_sortOfHand_24 : decode cX11_sortOfHand 24 = .ok (.invokevirtual 179, 3) := by decide +kernel
theorem dX11_sortOfHand_27 : decode cX11_sortOfHand 27 = .ok (.ifCond .ne 5, 3) := by decide +kernel
theorem dX11_sortOfHand_30 : decode cX11_sortOfHand 30 = .ok (.iconst 0, 1) := by decide +kernel
theorem dX11_sortOfHand_31 : decode cX11_sortOfHand 31 = .ok (.ireturn, 1) := by decide +kernel
theorem dX11_sortOfHand_32 : decode cX11_sortOfHand 32 = .ok (.aload_n 0, 1) := by decide +kernel
theorem dX11_sortOfHand_33 : decode cX11_sortOfHand 33 = .ok (.getfield 21, 3) := by decide +kernel
theorem dX11_sortOfHand_36 : decode cX11_sortOfHand 36 = .ok (.getfield 182, 3) := by decide +kernel
theorem dX11_sortOfHand_39 : decode cX11_sortOfHand 39 = .ok (.iconst 1, 1) := by decide +kernel
theorem dX11_sortOfHand_40 : decode cX11_sortOfHand 40 = .ok (.if_icmp .ne 5, 3) := by decide +kernel
theorem dX11_sortOfHand_43 : decode cX11_sortOfHand 43 = .ok (.iconst 4, 1) := by decide +kernel
theorem dX11_sortOfHand_44 : decode cX11_sortOfHand 44 = .ok (.ireturn, 1) := by decide +kernel
theorem dX11_sortOfHand_45 : decode cX11_sortOfHand 45 = .ok (.aload_n 0, 1) := by decide +kernel
theorem dX11_sortOfHand_46 : decode cX11_sortOfHand 46 = .ok (.getfield 35, 3) := by decide +kernel
theorem dX11_sortOfHand_49 : decode cX11_sortOfHand 49 = .ok (.aload_n 0, 1) := by decide +kernel
theorem dX11_sortOfHand_50 : decode cX11_sortOfHand 50 = .ok (.getfield 21, 3) := by decide +kernel
theorem dX11_sortOfHand_53 : decode cX11_sortOfHand 53 = .ok (.aload_n 0, 1) := by decide +kernel
theorem dX11_sortOfHand_54 : decode cX11_sortOfHand 54 = .ok (.getfield 28, 3) := by decide +kernel
theorem dX11_sortOfHand_57 : decode cX11_sortOfHand 57 = .ok (.getfield 185, 3) := by decide +kernel
theorem dX11_sortOfHand_60 : decode cX11_sortOfHand 60 = .ok (.aload_n 0, 1) := by decide +kernel
theorem dX11_sortOfHand_61 : decode cX11_sortOfHand 61 = .ok (.getfield 28, 3) := by decide +kernel
theorem dX11_sortOfHand_64 : decode cX11_sortOfHand 64 = .ok (.getfield 188, 3) := by decide +kernel
theorem dX11_sortOfHand_67 : decode cX11_sortOfHand 67 = .ok (.invokevirtual 191, 3) := by decide +kernel
theorem dX11_sortOfHand_70 : decode cX11_sortOfHand 70 = .ok (.aload_n 0, 1) := by decide +kernel
theorem dX11_sortOfHand_71 : decode cX11_sortOfHand 71 = .ok (.getfield 35, 3) := by decide +kernel
theorem dX11_sortOfHand_74 : decode cX11_sortOfHand 74 = .ok (.getfield 195, 3) := by decide +kernel
theorem dX11_sortOfHand_77 : decode cX11_sortOfHand 77 = .ok (.aload_n 0, 1) := by decide +kernel
theorem dX11_sortOfHand_78 : decode cX11_sortOfHand 78 = .ok (.getfield 21, 3) := by decide +kernel
theorem dX11_sortOfHand_81 : decode cX11_sortOfHand 81 = .ok (.getfield 182, 3) := by decide +kernel
theorem dX11_sortOfHand_84 : decode cX11_sortOfHand 84 = .ok (.if_icmp .ne 7, 3) := by decide +kernel
theorem dX11_sortOfHand_87 : decode cX11_sortOfHand 87 = .ok (.iconst 2, 1) := by decide +kernel
theorem dX11_sortOfHand_88 : decode cX11_sortOfHand 88 = .ok (.goto 4, 3) := by decide +kernel
theorem dX11_sortOfHand_91 : decode cX11_sortOfHand 91 = .ok (.iconst 1, 1) := by decide +kernel
theorem dX11_sortOfHand_92 : decode cX11_sortOfHand 92 = .ok (.ireturn, 1) := by decide +kernel
theorem dX11_answer_0 : decode cX11_answer 0 = .ok (.aload_n 0, 1) := by decide +kernel
theorem dX11_answer_1 : decode cX11_answer 1 = .ok (.getfield 12, 3) := by decide +kernel
theorem dX11_answer_4 : decode cX11_answer 4 = .ok (.iload_n 1, 1) := by decide +kernel
theorem dX11_answer_5 : decode cX11_answer 5 = .ok (.invokevirtual 128, 3) := by decide +kernel
theorem dX11_answer_8 : decode cX11_answer 8 = .ok (.ifCond .eq 26, 3) := by decide +kernel
theorem dX11_answer_11 : decode cX11_answer 11 = .ok (.aload_n 0, 1) := by decide +kernel
theorem dX11_answer_12 : decode cX11_answer 12 = .ok (.getfield 12, 3) := by decide +kernel
theorem dX11_answer_15 : decode cX11_answer 15 = .ok (.iload_n 2, 1) := by decide +kernel
theorem dX11_answer_16 : decode cX11_answer 16 = .ok (.invokevirtual 128, 3) := by decide +kernel
theorem dX11_answer_19 : decode cX11_answer 19 = .ok (.ifCond .eq 15, 3) := by decide +kernel
theorem dX11_answer_22 : decode cX11_answer 22 = .ok (.aload_n 0, 1) := by decide +kernel
theorem dX11_answer_23 : decode cX11_answer 23 = .ok (.getfield 12, 3) := by decide +kernel
theorem dX11_answer_26 : decode cX11_answer 26 = .ok (.iload_n 1, 1) := by decide +kernel
theorem dX11_answer_27 : decode cX11_answer 27 = .ok (.iload_n 2, 1) := by decide +kernel
theorem dX11_answer_28 : decode cX11_answer 28 = .ok (.invokevirtual 198, 3) := by decide +kernel
theorem dX11_answer_31 : decode cX11_answer 31 = .ok (.goto 4, 3) := by decide +kernel
theorem dX11_answer_34 : decode cX11_answer 34 = .ok (.iconst (-1), 1) := by decide +kernel
theorem dX11_answer_35 : decode cX11_answer 35 = .ok (.ireturn, 1) := by decide +kernel
theorem dX11_reply_0 : decode cX11_reply 0 = .ok (.aload_n 0, 1) := by decide +kernel
theorem dX11_reply_1 : decode cX11_reply 1 = .ok (.getfield 12, 3) := by decide +kernel
theorem dX11_reply_4 : decode cX11_reply 4 = .ok (.iload_n 1, 1) := by decide +kernel
theorem dX11_reply_5 : decode cX11_reply 5 = .ok (.invokevirtual 128, 3) := by decide +kernel
theorem dX11_reply_8 : decode cX11_reply 8 = .ok (.ifCond .eq 28, 3) := by decide +kernel
theorem dX11_reply_11 : decode cX11_reply 11 = .ok (.aload_n 0, 1) := by decide +kernel
theorem dX11_reply_12 : decode cX11_reply 12 = .ok (.getfield 12, 3) := by decide +kernel
theorem dX11_reply_15 : decode cX11_reply 15 = .ok (.aload_n 0, 1) := by decide +kernel
theorem dX11_reply_16 : decode cX11_reply 16 = .ok (.getfield 28, 3) := by decide +kernel
theorem dX11_reply_19 : decode cX11_reply 19 = .ok (.getfield 185, 3) := by decide +kernel
theorem dX11_reply_22 : decode cX11_reply 22 = .ok (.aload_n 0, 1) := by decide +kernel
theorem dX11_reply_23 : decode cX11_reply 23 = .ok (.getfield 28, 3) := by decide +kernel
theorem dX11_reply_26 : decode cX11_reply 26 = .ok (.getfield 188, 3) := by decide +kernel
theorem dX11_reply_29 : decode cX11_reply 29 = .ok (.iload_n 1, 1) := by decide +kernel
theorem dX11_reply_30 : decode cX11_reply 30 = .ok (.invokevirtual 201, 3) := by decide +kernel
theorem dX11_reply_33 : decode cX11_reply 33 = .ok (.goto 4, 3) := by decide +kernel
theorem dX11_reply_36 : decode cX11_reply 36 = .ok (.iconst (-1), 1) := by decide +kernel
theorem dX11_reply_37 : decode cX11_reply 37 = .ok (.ireturn, 1) := by decide +kernel
theorem dX11_tell_0 : decode cX11_tell 0 = .ok (.aload_n 0, 1) := by decide +kernel
theorem dX11_tell_1 : decode cX11_tell 1 = .ok (.getfield 12, 3) := by decide +kernel
theorem dX11_tell_4 : decode cX11_tell 4 = .ok (.iload_n 1, 1) := by decide +kernel
theorem dX11_tell_5 : decode cX11_tell 5 = .ok (.invokevirtual 205, 3) := by decide +kernel
theorem dX11_tell_8 : decode cX11_tell 8 = .ok (.ifCond .ne 5, 3) := by decide +kernel
theorem dX11_tell_11 : decode cX11_tell 11 = .ok (.iconst (-1), 1) := by decide +kernel
theorem dX11_tell_12 : decode cX11_tell 12 = .ok (.ireturn, 1) := by decide +kernel
theorem dX11_tell_13 : decode cX11_tell 13 = .ok (.aload_n 0, 1) := by decide +kernel
theorem dX11_tell_14 : decode cX11_tell 14 = .ok (.getfield 21, 3) := by decide +kernel
theorem dX11_tell_17 : decode cX11_tell 17 = .ok (.getfield 119, 3) := by decide +kernel
theorem dX11_tell_20 : decode cX11_tell 20 = .ok (.bipush 10, 2) := by decide +kernel
theorem dX11_tell_22 : decode cX11_tell 22 = .ok (.if_icmp .lt 6, 3) := by decide +kernel
theorem dX11_tell_25 : decode cX11_tell 25 = .ok (.bipush (-2), 2) := by decide +kernel
theorem dX11_tell_27 : decode cX11_tell 27 = .ok (.ireturn, 1) := by decide +kernel
theorem dX11_tell_28 : decode cX11_tell 28 = .ok (.aload_n 0, 1) := by decide +kernel
theorem dX11_tell_29 : decode cX11_tell 29 = .ok (.getfield 21, 3) := by decide +kernel
theorem dX11_tell_32 : decode cX11_tell 32 = .ok (.aload_n 0, 1) := by decide +kernel
theorem dX11_tell_33 : decode cX11_tell 33 = .ok (.getfield 28, 3) := by decide +kernel
theorem dX11_tell_36 : decode cX11_tell 36 = .ok (.iload_n 1, 1) := by decide +kernel
theorem dX11_tell_37 : decode cX11_tell 37 = .ok (.invokevirtual 208, 3) := by decide +kernel
theorem dX11_tell_40 : decode cX11_tell 40 = .ok (.ifCond .eq 13, 3) := by decide +kernel
theorem dX11_tell_43 : decode cX11_tell 43 = .ok (.aload_n 0, 1) := by decide +kernel
theorem dX11_tell_44 : decode cX11_tell 44 = .ok (.getfield 21, 3) := by decide +kernel
theorem dX11_tell_47 : decode cX11_tell 47 = .ok (.getfield 182, 3) := by decide +kernel
theorem dX11_tell_50 : decode cX11_tell 50 = .ok (.goto 5, 3) := by decide +kernel
theorem dX11_tell_53 : decode cX11_tell 53 = .ok (.bipush (-4), 2) := by decide +kernel
theorem dX11_tell_55 : decode cX11_tell 55 = .ok (.ireturn, 1) := by decide +kernel
theorem dX11_undo_0 : decode cX11_undo 0 = .ok (.aload_n 0, 1) := by decide +kernel
theorem dX11_undo_1 : decode cX11_undo 1 = .ok (.getfield 21, 3) := by decide +kernel
theorem dX11_undo_4 : decode cX11_undo 4 = .ok (.getfield 119, 3) := by decide +kernel
theorem dX11_undo_7 : decode cX11_undo 7 = .ok (.ifCond .ne 5, 3) := by decide +kernel
theorem dX11_undo_10 : decode cX11_undo 10 = .ok (.iconst (-1), 1) := by decide +kernel
theorem dX11_undo_11 : decode cX11_undo 11 = .ok (.ireturn, 1) := by decide +kernel
theorem dX11_undo_12 : decode cX11_undo 12 = .ok (.aload_n 0, 1) := by decide +kernel
theorem dX11_undo_13 : decode cX11_undo 13 = .ok (.getfield 21, 3) := by decide +kernel
theorem dX11_undo_16 : decode cX11_undo 16 = .ok (.invokevirtual 212, 3) := by decide +kernel
theorem dX11_undo_19 : decode cX11_undo 19 = .ok (.aload_n 0, 1) := by decide +kernel
theorem dX11_undo_20 : decode cX11_undo 20 = .ok (.getfield 21, 3) := by decide +kernel
theorem dX11_undo_23 : decode cX11_undo 23 = .ok (.getfield 119, 3) := by decide +kernel
theorem dX11_undo_26 : decode cX11_undo 26 = .ok (.ireturn, 1) := by decide +kernel
theorem dX11_quarrel_0 : decode cX11_quarrel 0 = .ok (.aload_n 0, 1) := by decide +kernel
theorem dX11_quarrel_1 : decode cX11_quarrel 1 = .ok (.getfield 21, 3) := by decide +kernel
theorem dX11_quarrel_4 : decode cX11_quarrel 4 = .ok (.getfield 215, 3) := by decide +kernel
theorem dX11_quarrel_7 : decode cX11_quarrel 7 = .ok (.iconst (-1), 1) := by decide +kernel
theorem dX11_quarrel_8 : decode cX11_quarrel 8 = .ok (.if_icmp .ne 5, 3) := by decide +kernel
theorem dX11_quarrel_11 : decode cX11_quarrel 11 = .ok (.iconst (-1), 1) := by decide +kernel
theorem dX11_quarrel_12 : decode cX11_quarrel 12 = .ok (.ireturn, 1) := by decide +kernel
theorem dX11_quarrel_13 : decode cX11_quarrel 13 = .ok (.iload_n 1, 1) := by decide +kernel
theorem dX11_quarrel_14 : decode cX11_quarrel 14 = .ok (.iconst (-1), 1) := by decide +kernel
theorem dX11_quarrel_15 : decode cX11_quarrel 15 = .ok (.if_icmp .ne 16, 3) := by decide +kernel
theorem dX11_quarrel_18 : decode cX11_quarrel 18 = .ok (.aload_n 0, 1) := by decide +kernel
theorem dX11_quarrel_19 : decode cX11_quarrel 19 = .ok (.getfield 21, 3) := by decide +kernel
theorem dX11_quarrel_22 : decode cX11_quarrel 22 = .ok (.getfield 215, 3) := by decide +kernel
theorem dX11_quarrel_25 : decode cX11_quarrel 25 = .ok (.invokestatic 218, 3) := by decide +kernel
theorem dX11_quarrel_28 : decode cX11_quarrel 28 = .ok (.goto 14, 3) := by decide +kernel
theorem dX11_quarrel_31 : decode cX11_quarrel 31 = .ok (.aload_n 0, 1) := by decide +kernel
theorem dX11_quarrel_32 : decode cX11_quarrel 32 = .ok (.getfield 21, 3) := by decide +kernel
theorem dX11_quarrel_35 : decode cX11_quarrel 35 = .ok (.getfield 215, 3) := by decide +kernel
theorem dX11_quarrel_38 : decode cX11_quarrel 38 = .ok (.iload_n 1, 1) := by decide +kernel
theorem dX11_quarrel_39 : decode cX11_quarrel 39 = .ok (.invokestatic 223, 3) := by decide +kernel
theorem dX11_quarrel_42 : decode cX11_quarrel 42 = .ok (.ireturn, 1) := by decide +kernel
theorem dX11_memberOf_0 : decode cX11_memberOf 0 = .ok (.iconst 0, 1) := by decide +kernel
theorem dX11_memberOf_1 : decode cX11_memberOf 1 = .ok (.istore_n 2, 1) := by decide +kernel
theorem dX11_memberOf_2 : decode cX11_memberOf 2 = .ok (.iconst 0, 1) := by decide +kernel
theorem dX11_memberOf_3 : decode cX11_memberOf 3 = .ok (.istore_n 3, 1) := by decide +kernel
theorem dX11_memberOf_4 : decode cX11_memberOf 4 = .ok (.iload_n 3, 1) := by decide +kernel
theorem dX11_memberOf_5 : decode cX11_memberOf 5 = .ok (.bipush 10, 2) := by decide +kernel
theorem dX11_memberOf_7 : decode cX11_memberOf 7 = .ok (.if_icmp .ge 27, 3) := by decide +kernel
theorem dX11_memberOf_10 : decode cX11_memberOf 10 = .ok (.iload_n 0, 1) := by decide +kernel
theorem dX11_memberOf_11 : decode cX11_memberOf 11 = .ok (.iload_n 3, 1) := by decide +kernel
theorem dX11_memberOf_12 : decode cX11_memberOf 12 = .ok (.iushr, 1) := by decide +kernel
theorem dX11_memberOf_13 : decode cX11_memberOf 13 = .ok (.iconst 1, 1) := by decide +kernel
theorem dX11_memberOf_14 : decode cX11_memberOf 14 = .ok (.iand, 1) := by decide +kernel
theorem dX11_memberOf_15 : decode cX11_memberOf 15 = .ok (.ifCond .eq 13, 3) := by decide +kernel
theorem dX11_memberOf_18 : decode cX11_memberOf 18 = .ok (.iload_n 2, 1) := by decide +kernel
theorem dX11_memberOf_19 : decode cX11_memberOf 19 = .ok (.iload_n 1, 1) := by decide +kernel
theorem dX11_memberOf_20 : decode cX11_memberOf 20 = .ok (.if_icmp .ne 5, 3) := by decide +kernel
theorem dX11_memberOf_23 : decode cX11_memberOf 23 = .ok (.iload_n 3, 1) := by decide +kernel
theorem dX11_memberOf_24 : decode cX11_memberOf 24 = .ok (.ireturn, 1) := by decide +kernel
theorem dX11_memberOf_25 : decode cX11_memberOf 25 = .ok (.iinc 2 1, 3) := by decide +kernel
theorem dX11_memberOf_28 : decode cX11_memberOf 28 = .ok (.iinc 3 1, 3) := by decide +kernel
theorem dX11_memberOf_31 : decode cX11_memberOf 31 = .ok (.goto (-27), 3) := by decide +kernel
theorem dX11_memberOf_34 : decode cX11_memberOf 34 = .ok (.iconst (-1), 1) := by decide +kernel
theorem dX11_memberOf_35 : decode cX11_memberOf 35 = .ok (.ireturn, 1) := by decide +kernel
theorem dX11_turn_0 : decode cX11_turn 0 = .ok (.iload_n 1, 1) := by decide +kernel
theorem dX11_turn_1 : decode cX11_turn 1 = .ok (.ifCond .lt 14, 3) := by decide +kernel
theorem dX11_turn_4 : decode cX11_turn 4 = .ok (.iload_n 1, 1) := by decide +kernel
theorem dX11_turn_5 : decode cX11_turn 5 = .ok (.aload_n 0, 1) := by decide +kernel
theorem dX11_turn_6 : decode cX11_turn 6 = .ok (.getfield 21, 3) := by decide +kernel
theorem dX11_turn_9 : decode cX11_turn 9 = .ok (.getfield 119, 3) := by decide +kernel
theorem dX11_turn_12 : decode cX11_turn 12 = .ok (.if_icmp .lt 5, 3) := by decide +kernel
theorem dX11_turn_15 : decode cX11_turn 15 = .ok (.iconst (-1), 1) := by decide +kernel
theorem dX11_turn_16 : decode cX11_turn 16 = .ok (.ireturn, 1) := by decide +kernel
theorem dX11_turn_17 : decode cX11_turn 17 = .ok (.iload_n 2, 1) := by decide +kernel
theorem dX11_turn_18 : decode cX11_turn 18 = .ok (.ifCond .ne 13, 3) := by decide +kernel
theorem dX11_turn_21 : decode cX11_turn 21 = .ok (.aload_n 0, 1) := by decide +kernel
theorem dX11_turn_22 : decode cX11_turn 22 = .ok (.getfield 21, 3) := by decide +kernel
theorem dX11_turn_25 : decode cX11_turn 25 = .ok (.getfield 226, 3) := by decide +kernel
theorem dX11_turn_28 : decode cX11_turn 28 = .ok (.iload_n 1, 1) := by decide +kernel
theorem dX11_turn_29 : decode cX11_turn 29 = .ok (.iaload, 1) := by decide +kernel
theorem dX11_turn_30 : decode cX11_turn 30 = .ok (.ireturn, 1) := by decide +kernel
theorem dX11_turn_31 : decode cX11_turn 31 = .ok (.iload_n 2, 1) := by decide +kernel
theorem dX11_turn_32 : decode cX11_turn 32 = .ok (.bipush 6, 2) := by decide +kernel
theorem dX11_turn_34 : decode cX11_turn 34 = .ok (.if_icmp .ne 12, 3) := by decide +kernel
theorem dX11_turn_37 : decode cX11_turn 37 = .ok (.aload_n 0, 1) := by decide +kernel
theorem dX11_turn_38 : decode cX11_turn 38 = .ok (.getfield 21, 3) := by decide +kernel
theorem dX11_turn_41 : decode cX11_turn 41 = .ok (.iload_n 1, 1) := by decide +kernel
theorem dX11_turn_42 : decode cX11_turn 42 = .ok (.invokevirtual 229, 3) := by decide +kernel
theorem dX11_turn_45 : decode cX11_turn 45 = .ok (.ireturn, 1) := by decide +kernel
theorem dX11_turn_46 : decode cX11_turn 46 = .ok (.aload_n 0, 1) := by decide +kernel
theorem dX11_turn_47 : decode cX11_turn 47 = .ok (.getfield 12, 3) := by decide +kernel
theorem dX11_turn_50 : decode cX11_turn 50 = .ok (.iload_n 2, 1) := by decide +kernel
theorem dX11_turn_51 : decode cX11_turn 51 = .ok (.iconst 1, 1) := by decide +kernel
theorem dX11_turn_52 : decode cX11_turn 52 = .ok (.isub, 1) := by decide +kernel
theorem dX11_turn_53 : decode cX11_turn 53 = .ok (.invokevirtual 148, 3) := by decide +kernel
theorem dX11_turn_56 : decode cX11_turn 56 = .ok (.ifCond .eq 21, 3) := by decide +kernel
theorem dX11_turn_59 : decode cX11_turn 59 = .ok (.aload_n 0, 1) := by decide +kernel
theorem dX11_turn_60 : decode cX11_turn 60 = .ok (.getfield 21, 3) := by decide +kernel
theorem dX11_turn_63 : decode cX11_turn 63 = .ok (.getfield 232, 3) := by decide +kernel
theorem dX11_turn_66 : decode cX11_turn 66 = .ok (.iload_n 1, 1) := by decide +kernel
theorem dX11_turn_67 : decode cX11_turn 67 = .ok (.iconst 5, 1) := by decide +kernel
theorem dX11_turn_68 : decode cX11_turn 68 = .ok (.imul, 1) := by decide +kernel
theorem dX11_turn_69 : decode cX11_turn 69 = .ok (.iload_n 2, 1) := by decide +kernel
theorem dX11_turn_70 : decode cX11_turn 70 = .ok (.iadd, 1) := by decide +kernel
theorem dX11_turn_71 : decode cX11_turn 71 = .ok (.iconst 1, 1) := by decide +kernel
theorem dX11_turn_72 : decode cX11_turn 72 = .ok (.isub, 1) := by decide +kernel
theorem dX11_turn_73 : decode cX11_turn 73 = .ok (.iaload, 1) := by decide +kernel
theorem dX11_turn_74 : decode cX11_turn 74 = .ok (.goto 4, 3) := by decide +kernel
theorem dX11_turn_77 : decode cX11_turn 77 = .ok (.iconst (-1), 1) := by decide +kernel
theorem dX11_turn_78 : decode cX11_turn 78 = .ok (.ireturn, 1) := by decide +kernel
theorem dX11_left_0 : decode cX11_left 0 = .ok (.iload_n 1, 1) := by decide +kernel
theorem dX11_left_1 : decode cX11_left 1 = .ok (.ifCond .lt 26, 3) := by decide +kernel
theorem dX11_left_4 : decode cX11_left 4 = .ok (.iload_n 1, 1) := by decide +kernel
theorem dX11_left_5 : decode cX11_left 5 = .ok (.aload_n 0, 1) := by decide +kernel
theorem dX11_left_6 : decode cX11_left 6 = .ok (.getfield 21, 3) := by decide +kernel
theorem dX11_left_9 : decode cX11_left 9 = .ok (.getfield 182, 3) := by decide +kernel
theorem dX11_left_12 : decode cX11_left 12 = .ok (.if_icmp .ge 15, 3) := by decide +kernel
theorem dX11_left_15 : decode cX11_left 15 = .ok (.aload_n 0, 1) := by decide +kernel
theorem dX11_left_16 : decode cX11_left 16 = .ok (.getfield 21, 3) := by decide +kernel
theorem dX11_left_19 : decode cX11_left 19 = .ok (.getfield 233, 3) := by decide +kernel
theorem dX11_left_22 : decode cX11_left 22 = .ok (.iload_n 1, 1) := by decide +kernel
theorem dX11_left_23 : decode cX11_left 23 = .ok (.iaload, 1) := by decide +kernel
theorem dX11_left_24 : decode cX11_left 24 = .ok (.goto 4, 3) := by decide +kernel
theorem dX11_left_27 : decode cX11_left 27 = .ok (.iconst (-1), 1) := by decide +kernel
theorem dX11_left_28 : decode cX11_left 28 = .ok (.ireturn, 1) := by decide +kernel
theorem dX11_falses_0 : decode cX11_falses 0 = .ok (.aload_n 0, 1) := by decide +kernel
theorem dX11_falses_1 : decode cX11_falses 1 = .ok (.getfield 12, 3) := by decide +kernel
theorem dX11_falses_4 : decode cX11_falses 4 = .ok (.iload_n 1, 1) := by decide +kernel
theorem dX11_falses_5 : decode cX11_falses 5 = .ok (.invokevirtual 128, 3) := by decide +kernel
theorem dX11_falses_8 : decode cX11_falses 8 = .ok (.ifCond .eq 18, 3) := by decide +kernel
theorem dX11_falses_11 : decode cX11_falses 11 = .ok (.aload_n 0, 1) := by decide +kernel
theorem dX11_falses_12 : decode cX11_falses 12 = .ok (.getfield 21, 3) := by decide +kernel
theorem dX11_falses_15 : decode cX11_falses 15 = .ok (.getfield 236, 3) := by decide +kernel
theorem dX11_falses_18 : decode cX11_falses 18 = .ok (.iload_n 1, 1) := by decide +kernel
theorem dX11_falses_19 : decode cX11_falses 19 = .ok (.iaload, 1) := by decide +kernel
theorem dX11_falses_20 : decode cX11_falses 20 = .ok (.invokestatic 218, 3) := by decide +kernel
theorem dX11_falses_23 : decode cX11_falses 23 = .ok (.goto 4, 3) := by decide +kernel
theorem dX11_falses_26 : decode cX11_falses 26 = .ok (.iconst (-1), 1) := by decide +kernel
theorem dX11_falses_27 : decode cX11_falses 27 = .ok (.ireturn, 1) := by decide +kernel
theorem dX11_part_0 : decode cX11_part 0 = .ok (.iload_n 2, 1) := by decide +kernel
theorem dX11_part_1 : decode cX11_part 1 = .ok (.ifCond .eq 10, 3) := by decide +kernel
theorem dX11_part_4 : decode cX11_part 4 = .ok (.iload_n 2, 1) := by decide +kernel
theorem dX11_part_5 : decode cX11_part 5 = .ok (.iconst 1, 1) := by decide +kernel
theorem dX11_part_6 : decode cX11_part 6 = .ok (.if_icmp .eq 5, 3) := by decide +kernel
theorem dX11_part_9 : decode cX11_part 9 = .ok (.iconst (-1), 1) := by decide +kernel
theorem dX11_part_10 : decode cX11_part 10 = .ok (.ireturn, 1) := by decide +kernel
theorem dX11_part_11 : decode cX11_part 11 = .ok (.aload_n 0, 1) := by decide +kernel
theorem dX11_part_12 : decode cX11_part 12 = .ok (.getfield 35, 3) := by decide +kernel
theorem dX11_part_15 : decode cX11_part 15 = .ok (.aload_n 0, 1) := by decide +kernel
theorem dX11_part_16 : decode cX11_part 16 = .ok (.getfield 21, 3) := by decide +kernel
theorem dX11_part_19 : decode cX11_part 19 = .ok (.aload_n 0, 1) := by decide +kernel
theorem dX11_part_20 : decode cX11_part 20 = .ok (.getfield 28, 3) := by decide +kernel
theorem dX11_part_23 : decode cX11_part 23 = .ok (.getfield 185, 3) := by decide +kernel
theorem dX11_part_26 : decode cX11_part 26 = .ok (.aload_n 0, 1) := by decide +kernel
theorem dX11_part_27 : decode cX11_part 27 = .ok (.getfield 28, 3) := by decide +kernel
theorem dX11_part_30 : decode cX11_part 30 = .ok (.getfield 188, 3) := by decide +kernel
theorem dX11_part_33 : decode cX11_part 33 = .ok (.invokevirtual 191, 3) := by decide +kernel
theorem dX11_part_36 : decode cX11_part 36 = .ok (.aload_n 0, 1) := by decide +kernel
theorem dX11_part_37 : decode cX11_part 37 = .ok (.getfield 35, 3) := by decide +kernel
theorem dX11_part_40 : decode cX11_part 40 = .ok (.iload_n 1, 1) := by decide +kernel
theorem dX11_part_41 : decode cX11_part 41 = .ok (.invokevirtual 239, 3) := by decide +kernel
theorem dX11_part_44 : decode cX11_part 44 = .ok (.istore_n 3, 1) := by decide +kernel
theorem dX11_part_45 : decode cX11_part 45 = .ok (.iload_n 3, 1) := by decide +kernel
theorem dX11_part_46 : decode cX11_part 46 = .ok (.iconst (-1), 1) := by decide +kernel
theorem dX11_part_47 : decode cX11_part 47 = .ok (.if_icmp .ne 5, 3) := by decide +kernel
theorem dX11_part_50 : decode cX11_part 50 = .ok (.iconst (-1), 1) := by decide +kernel
theorem dX11_part_51 : decode cX11_part 51 = .ok (.ireturn, 1) := by decide +kernel
theorem dX11_part_52 : decode cX11_part 52 = .ok (.iload_n 2, 1) := by decide +kernel
theorem dX11_part_53 : decode cX11_part 53 = .ok (.ifCond .ne 7, 3) := by decide +kernel
theorem dX11_part_56 : decode cX11_part 56 = .ok (.iload_n 3, 1) := by decide +kernel
theorem dX11_part_57 : decode cX11_part 57 = .ok (.goto 12, 3) := by decide +kernel
theorem dX11_part_60 : decode cX11_part 60 = .ok (.aload_n 0, 1) := by decide +kernel
theorem dX11_part_61 : decode cX11_part 61 = .ok (.getfield 35, 3) := by decide +kernel
theorem dX11_part_64 : decode cX11_part 64 = .ok (.getfield 242, 3) := by decide +kernel
theorem dX11_part_67 : decode cX11_part 67 = .ok (.iload_n 3, 1) := by decide +kernel
theorem dX11_part_68 : decode cX11_part 68 = .ok (.iaload, 1) := by decide +kernel
theorem dX11_part_69 : decode cX11_part 69 = .ok (.ireturn, 1) := by decide +kernel
theorem dX11_among_0 : decode cX11_among 0 = .ok (.iload_n 1, 1) := by decide +kernel
theorem dX11_among_1 : decode cX11_among 1 = .ok (.ifCond .lt 8, 3) := by decide +kernel
theorem dX11_among_4 : decode cX11_among 4 = .ok (.iload_n 1, 1) := by decide +kernel
theorem dX11_among_5 : decode cX11_among 5 = .ok (.iconst 3, 1) := by decide +kernel
theorem dX11_among_6 : decode cX11_among 6 = .ok (.if_icmp .le 5, 3) := by decide +kernel
theorem dX11_among_9 : decode cX11_among 9 = .ok (.iconst (-1), 1) := by decide +kernel
theorem dX11_among_10 : decode cX11_among 10 = .ok (.ireturn, 1) := by decide +kernel
theorem dX11_among_11 : decode cX11_among 11 = .ok (.aload_n 0, 1) := by decide +kernel
theorem dX11_among_12 : decode cX11_among 12 = .ok (.getfield 21, 3) := by decide +kernel
theorem dX11_among_15 : decode cX11_among 15 = .ok (.getfield 182, 3) := by decide +kernel
theorem dX11_among_18 : decode cX11_among 18 = .ok (.ifCond .ne 14, 3) := by decide +kernel
theorem dX11_among_21 : decode cX11_among 21 = .ok (.iload_n 1, 1) := by decide +kernel
theorem dX11_among_22 : decode cX11_among 22 = .ok (.iconst 2, 1) := by decide +kernel
theorem dX11_among_23 : decode cX11_among 23 = .ok (.if_icmp .ge 7, 3) := by decide +kernel
theorem dX11_among_26 : decode cX11_among 26 = .ok (.iconst 0, 1) := by decide +kernel
theorem dX11_among_27 : decode cX11_among 27 = .ok (.goto 4, 3) := by decide +kernel
theorem dX11_among_30 : decode cX11_among 30 = .ok (.iconst (-1), 1) := by decide +kernel
theorem dX11_among_31 : decode cX11_among 31 = .ok (.ireturn, 1) := by decide +kernel
theorem dX11_among_32 : decode cX11_among 32 = .ok (.aload_n 0, 1) := by decide +kernel
theorem dX11_among_33 : decode cX11_among 33 = .ok (.getfield 12, 3) := by decide +kernel
theorem dX11_among_36 : decode cX11_among 36 = .ok (.getfield 94, 3) := by decide +kernel
theorem dX11_among_39 : decode cX11_among 39 = .ok (.aload_n 0, 1) := by decide +kernel
theorem dX11_among_40 : decode cX11_among 40 = .ok (.getfield 21, 3) := by decide +kernel
theorem dX11_among_43 : decode cX11_among 43 = .ok (.getfield 182, 3) := by decide +kernel
theorem dX11_among_46 : decode cX11_among 46 = .ok (.imul, 1) := by decide +kernel
theorem dX11_among_47 : decode cX11_among 47 = .ok (.ldc 245, 2) := by decide +kernel
theorem dX11_among_49 : decode cX11_among 49 = .ok (.if_icmp .le 6, 3) := by decide +kernel
theorem dX11_among_52 : decode cX11_among 52 = .ok (.bipush (-5), 2) := by decide +kernel
theorem dX11_among_54 : decode cX11_among 54 = .ok (.ireturn, 1) := by decide +kernel
theorem dX11_among_55 : decode cX11_among 55 = .ok (.aload_n 0, 1) := by decide +kernel
theorem dX11_among_56 : decode cX11_among 56 = .ok (.getfield 42, 3) := by decide +kernel
theorem dX11_among_59 : decode cX11_among 59 = .ok (.aload_n 0, 1) := by decide +kernel
theorem dX11_among_60 : decode cX11_among 60 = .ok (.getfield 21, 3) := by decide +kernel
theorem dX11_among_63 : decode cX11_among 63 = .ok (.aload_n 0, 1) := by decide +kernel
theorem dX11_among_64 : decode cX11_among 64 = .ok (.getfield 35, 3) := by decide +kernel
theorem dX11_among_67 : decode cX11_among 67 = .ok (.invokevirtual 246, 3) := by decide +kernel
theorem dX11_among_70 : decode cX11_among 70 = .ok (.iload_n 1, 1) := by decide +kernel
theorem dX11_among_71 : decode cX11_among 71 = .ok (.tableswitch 49 0 2 #[25, 33, 41], 25) := by decide +kernel
theorem dX11_among_96 : decode cX11_among 96 = .ok (.aload_n 0, 1) := by decide +kernel
theorem dX11_among_97 : decode cX11_among 97 = .ok (.getfield 42, 3) := by decide +kernel
theorem dX11_among_100 : decode cX11_among 100 = .ok (.getfield 250, 3) := by decide +kernel
theorem dX11_among_103 : decode cX11_among 103 = .ok (.ireturn, 1) := by decide +kernel
theorem dX11_among_104 : decode cX11_among 104 = .ok (.aload_n 0, 1) := by decide +kernel
theorem dX11_among_105 : decode cX11_among 105 = .ok (.getfield 42, 3) := by decide +kernel
theorem dX11_among_108 : decode cX11_among 108 = .ok (.getfield 253, 3) := by decide +kernel
theorem dX11_among_111 : decode cX11_among 111 = .ok (.ireturn, 1) := by decide +kernel
theorem dX11_among_112 : decode cX11_among 112 = .ok (.aload_n 0, 1) := by decide +kernel
theorem dX11_among_113 : decode cX11_among 113 = .ok (.getfield 42, 3) := by decide +kernel
theorem dX11_among_116 : decode cX11_among 116 = .ok (.getfield 256, 3) := by decide +kernel
theorem dX11_among_119 : decode cX11_among 119 = .ok (.ireturn, 1) := by decide +kernel
theorem dX11_among_120 : decode cX11_among 120 = .ok (.aload_n 0, 1) := by decide +kernel
theorem dX11_among_121 : decode cX11_among 121 = .ok (.getfield 42, 3) := by decide +kernel
theorem dX11_among_124 : decode cX11_among 124 = .ok (.getfield 259, 3) := by decide +kernel
theorem dX11_among_127 : decode cX11_among 127 = .ok (.ireturn, 1) := by decide +kernel
theorem dX11_like_0 : decode cX11_like 0 = .ok (.aload_n 0, 1) := by decide +kernel
theorem dX11_like_1 : decode cX11_like 1 = .ok (.getfield 12, 3) := by decide +kernel
theorem dX11_like_4 : decode cX11_like 4 = .ok (.iload_n 1, 1) := by decide +kernel
theorem dX11_like_5 : decode cX11_like 5 = .ok (.invokevirtual 128, 3) := by decide +kernel
theorem dX11_like_8 : decode cX11_like 8 = .ok (.ifCond .eq 14, 3) := by decide +kernel
theorem dX11_like_11 : decode cX11_like 11 = .ok (.aload_n 0, 1) := by decide +kernel
theorem dX11_like_12 : decode cX11_like 12 = .ok (.getfield 12, 3) := by decide +kernel
theorem dX11_like_15 : decode cX11_like 15 = .ok (.iload_n 2, 1) := by decide +kernel
theorem dX11_like_16 : decode cX11_like 16 = .ok (.invokevirtual 128, 3) := by decide +kernel
theorem dX11_like_19 : decode cX11_like 19 = .ok (.ifCond .ne 5, 3) := by decide +kernel
theorem dX11_like_22 : decode cX11_like 22 = .ok (.iconst (-1), 1) := by decide +kernel
theorem dX11_like_23 : decode cX11_like 23 = .ok (.ireturn, 1) := by decide +kernel
theorem dX11_like_24 : decode cX11_like 24 = .ok (.aload_n 0, 1) := by decide +kernel
theorem dX11_like_25 : decode cX11_like 25 = .ok (.getfield 12, 3) := by decide +kernel
theorem dX11_like_28 : decode cX11_like 28 = .ok (.getfield 162, 3) := by decide +kernel
theorem dX11_like_31 : decode cX11_like 31 = .ok (.iconst 4, 1) := by decide +kernel
theorem dX11_like_32 : decode cX11_like 32 = .ok (.if_icmp .gt 14, 3) := by decide +kernel
theorem dX11_like_35 : decode cX11_like 35 = .ok (.aload_n 0, 1) := by decide +kernel
theorem dX11_like_36 : decode cX11_like 36 = .ok (.getfield 12, 3) := by decide +kernel
theorem dX11_like_39 : decode cX11_like 39 = .ok (.getfield 165, 3) := by decide +kernel
theorem dX11_like_42 : decode cX11_like 42 = .ok (.iconst 5, 1) := by decide +kernel
theorem dX11_like_43 : decode cX11_like 43 = .ok (.if_icmp .le 6, 3) := by decide +kernel
theorem dX11_like_46 : decode cX11_like 46 = .ok (.bipush (-5), 2) := by decide +kernel
theorem dX11_like_48 : decode cX11_like 48 = .ok (.ireturn, 1) := by decide +kernel
theorem dX11_like_49 : decode cX11_like 49 = .ok (.aload_n 0, 1) := by decide +kernel
theorem dX11_like_50 : decode cX11_like 50 = .ok (.getfield 49, 3) := by decide +kernel
theorem dX11_like_53 : decode cX11_like 53 = .ok (.aload_n 0, 1) := by decide +kernel
theorem dX11_like_54 : decode cX11_like 54 = .ok (.getfield 21, 3) := by decide +kernel
theorem dX11_like_57 : decode cX11_like 57 = .ok (.iload_n 1, 1) := by decide +kernel
theorem dX11_like_58 : decode cX11_like 58 = .ok (.iload_n 2, 1) := by decide +kernel
theorem dX11_like_59 : decode cX11_like 59 = .ok (.invokevirtual 262, 3) := by decide +kernel
theorem dX11_like_62 : decode cX11_like 62 = .ok (.ifCond .eq 7, 3) := by decide +kernel
theorem dX11_like_65 : decode cX11_like 65 = .ok (.iconst 1, 1) := by decide +kernel
theorem dX11_like_66 : decode cX11_like 66 = .ok (.goto 4, 3) := by decide +kernel
theorem dX11_like_69 : decode cX11_like 69 = .ok (.iconst 0, 1) := by decide +kernel
theorem dX11_like_70 : decode cX11_like 70 = .ok (.ireturn, 1) := by decide +kernel
theorem dX11_least_0 : decode cX11_least 0 = .ok (.iload_n 1, 1) := by decide +kernel
theorem dX11_least_1 : decode cX11_least 1 = .ok (.invokestatic 266, 3) := by decide +kernel
theorem dX11_least_4 : decode cX11_least 4 = .ok (.ifCond .ne 5, 3) := by decide +kernel
theorem dX11_least_7 : decode cX11_least 7 = .ok (.iconst (-1), 1) := by decide +kernel
theorem dX11_least_8 : decode cX11_least 8 = .ok (.ireturn, 1) := by decide +kernel
theorem dX11_least_9 : decode cX11_least 9 = .ok (.aload_n 0, 1) := by decide +kernel
theorem dX11_least_10 : decode cX11_least 10 = .ok (.invokevirtual 269, 3) := by decide +kernel
theorem dX11_least_13 : decode cX11_least 13 = .ok (.istore_n 2, 1) := by decide +kernel
theorem dX11_least_14 : decode cX11_least 14 = .ok (.iload_n 2, 1) := by decide +kernel
theorem dX11_least_15 : decode cX11_least 15 = .ok (.ifCond .eq 7, 3) := by decide +kernel
theorem dX11_least_18 : decode cX11_least 18 = .ok (.iload_n 2, 1) := by decide +kernel
theorem dX11_least_19 : decode cX11_least 19 = .ok (.goto 11, 3) := by decide +kernel
theorem dX11_least_22 : decode cX11_least 22 = .ok (.aload_n 0, 1) := by decide +kernel
theorem dX11_least_23 : decode cX11_least 23 = .ok (.iload_n 1, 1) := by decide +kernel
theorem dX11_least_24 : decode cX11_least 24 = .ok (.invokevirtual 272, 3) := by decide +kernel
theorem dX11_least_27 : decode cX11_least 27 = .ok (.invokevirtual 276, 3) := by decide +kernel
theorem dX11_least_30 : decode cX11_least 30 = .ok (.ireturn, 1) := by decide +kernel
theorem dX11_sum_0 : decode cX11_sum 0 = .ok (.iload_n 1, 1) := by decide +kernel
theorem dX11_sum_1 : decode cX11_sum 1 = .ok (.invokestatic 266, 3) := by decide +kernel
theorem dX11_sum_4 : decode cX11_sum 4 = .ok (.ifCond .eq 10, 3) := by decide +kernel
theorem dX11_sum_7 : decode cX11_sum 7 = .ok (.iload_n 2, 1) := by decide +kernel
theorem dX11_sum_8 : decode cX11_sum 8 = .ok (.invokestatic 279, 3) := by decide +kernel
theorem dX11_sum_11 : decode cX11_sum 11 = .ok (.ifCond .ne 5, 3) := by decide +kernel
theorem dX11_sum_14 : decode cX11_sum 14 = .ok (.iconst (-1), 1) := by decide +kernel
theorem dX11_sum_15 : decode cX11_sum 15 = .ok (.ireturn, 1) := by decide +kernel
theorem dX11_sum_16 : decode cX11_sum 16 = .ok (.aload_n 0, 1) := by decide +kernel
theorem dX11_sum_17 : decode cX11_sum 17 = .ok (.invokevirtual 269, 3) := by decide +kernel
theorem dX11_sum_20 : decode cX11_sum 20 = .ok (.istore_n 3, 1) := by decide +kernel
theorem dX11_sum_21 : decode cX11_sum 21 = .ok (.iload_n 3, 1) := by decide +kernel
theorem dX11_sum_22 : decode cX11_sum 22 = .ok (.ifCond .eq 5, 3) := by decide +kernel
theorem dX11_sum_25 : decode cX11_sum 25 = .ok (.iload_n 3, 1) := by decide +kernel
theorem dX11_sum_26 : decode cX11_sum 26 = .ok (.ireturn, 1) := by decide +kernel
theorem dX11_sum_27 : decode cX11_sum 27 = .ok (.aload_n 0, 1) := by decide +kernel
theorem dX11_sum_28 : decode cX11_sum 28 = .ok (.iload_n 1, 1) := by decide +kernel
theorem dX11_sum_29 : decode cX11_sum 29 = .ok (.invokevirtual 272, 3) := by decide +kernel
theorem dX11_sum_32 : decode cX11_sum 32 = .ok (.iload_n 2, 1) := by decide +kernel
theorem dX11_sum_33 : decode cX11_sum 33 = .ok (.invokevirtual 282, 3) := by decide +kernel
theorem dX11_sum_36 : decode cX11_sum 36 = .ok (.istore 4, 2) := by decide +kernel
theorem dX11_sum_38 : decode cX11_sum 38 = .ok (.iload 4, 2) := by decide +kernel
theorem dX11_sum_40 : decode cX11_sum 40 = .ok (.ifCond .ne 8, 3) := by decide +kernel
theorem dX11_sum_43 : decode cX11_sum 43 = .ok (.bipush (-7), 2) := by decide +kernel
theorem dX11_sum_45 : decode cX11_sum 45 = .ok (.goto 5, 3) := by decide +kernel
theorem dX11_sum_48 : decode cX11_sum 48 = .ok (.iload 4, 2) := by decide +kernel
theorem dX11_sum_50 : decode cX11_sum 50 = .ok (.ireturn, 1) := by decide +kernel
theorem dX11_best_0 : decode cX11_best 0 = .ok (.iload_n 1, 1) := by decide +kernel
theorem dX11_best_1 : decode cX11_best 1 = .ok (.ifCond .eq 8, 3) := by decide +kernel
theorem dX11_best_4 : decode cX11_best 4 = .ok (.iload_n 1, 1) := by decide +kernel
theorem dX11_best_5 : decode cX11_best 5 = .ok (.iconst 1, 1) := by decide +kernel
theorem dX11_best_6 : decode cX11_best 6 = .ok (.if_icmp .ne 17, 3) := by decide +kernel
theorem dX11_best_9 : decode cX11_best 9 = .ok (.iload_n 2, 1) := by decide +kernel
theorem dX11_best_10 : decode cX11_best 10 = .ok (.invokestatic 266, 3) := by decide +kernel
theorem dX11_best_13 : decode cX11_best 13 = .ok (.ifCond .eq 10, 3) := by decide +kernel
theorem dX11_best_16 : decode cX11_best 16 = .ok (.iload_n 3, 1) := by decide +kernel
theorem dX11_best_17 : decode cX11_best 17 = .ok (.invokestatic 279, 3) := by decide +kernel
theorem dX11_best_20 : decode cX11_best 20 = .ok (.ifCond .ne 5, 3) := by decide +kernel
theorem dX11_best_23 : decode cX11_best 23 = .ok (.iconst (-1), 1) := by decide +kernel
theorem dX11_best_24 : decode cX11_best 24 = .ok (.ireturn, 1) := by decide +kernel
theorem dX11_best_25 : decode cX11_best 25 = .ok (.aload_n 0, 1) := by decide +kernel
theorem dX11_best_26 : decode cX11_best 26 = .ok (.invokevirtual 269, 3) := by decide +kernel
theorem dX11_best_29 : decode cX11_best 29 = .ok (.istore 4, 2) := by decide +kernel
theorem dX11_best_31 : decode cX11_best 31 = .ok (.iload 4, 2) := by decide +kernel
theorem dX11_best_33 : decode cX11_best 33 = .ok (.ifCond .eq 6, 3) := by decide +kernel
theorem dX11_best_36 : decode cX11_best 36 = .ok (.iload 4, 2) := by decide +kernel
theorem dX11_best_38 : decode cX11_best 38 = .ok (.ireturn, 1) := by decide +kernel
theorem dX11_best_39 : decode cX11_best 39 = .ok (.aload_n 0, 1) := by decide +kernel
theorem dX11_best_40 : decode cX11_best 40 = .ok (.iload_n 2, 1) := by decide +kernel
theorem dX11_best_41 : decode cX11_best 41 = .ok (.invokevirtual 272, 3) := by decide +kernel
theorem dX11_best_44 : decode cX11_best 44 = .ok (.astore 5, 2) := by decide +kernel
theorem dX11_best_46 : decode cX11_best 46 = .ok (.iload_n 1, 1) := by decide +kernel
theorem dX11_best_47 : decode cX11_best 47 = .ok (.ifCond .ne 9, 3) := by decide +kernel
theorem dX11_best_50 : decode cX11_best 50 = .ok (.aload 5, 2) := by decide +kernel
theorem dX11_best_52 : decode cX11_best 52 = .ok (.invokevirtual 285, 3) := by decide +kernel
theorem dX11_best_55 : decode cX11_best 55 = .ok (.ireturn, 1) := by decide +kernel
theorem dX11_best_56 : decode cX11_best 56 = .ok (.aload 5, 2) := by decide +kernel
theorem dX11_best_58 : decode cX11_best 58 = .ok (.iload_n 3, 1) := by decide +kernel
theorem dX11_best_59 : decode cX11_best 59 = .ok (.invokevirtual 282, 3) := by decide +kernel
theorem dX11_best_62 : decode cX11_best 62 = .ok (.ifCond .ne 8, 3) := by decide +kernel
theorem dX11_best_65 : decode cX11_best 65 = .ok (.bipush (-7), 2) := by decide +kernel
theorem dX11_best_67 : decode cX11_best 67 = .ok (.goto 9, 3) := by decide +kernel
theorem dX11_best_70 : decode cX11_best 70 = .ok (.aload 5, 2) := by decide +kernel
theorem dX11_best_72 : decode cX11_best 72 = .ok (.iload_n 3, 1) := by decide +kernel
theorem dX11_best_73 : decode cX11_best 73 = .ok (.invokevirtual 288, 3) := by decide +kernel
theorem dX11_best_76 : decode cX11_best 76 = .ok (.ireturn, 1) := by decide +kernel
theorem dX11_tree_0 : decode cX11_tree 0 = .ok (.iload_n 1, 1) := by decide +kernel
theorem dX11_tree_1 : decode cX11_tree 1 = .ok (.invokestatic 266, 3) := by decide +kernel
theorem dX11_tree_4 : decode cX11_tree 4 = .ok (.ifCond .eq 10, 3) := by decide +kernel
theorem dX11_tree_7 : decode cX11_tree 7 = .ok (.iload_n 2, 1) := by decide +kernel
theorem dX11_tree_8 : decode cX11_tree 8 = .ok (.invokestatic 279, 3) := by decide +kernel
theorem dX11_tree_11 : decode cX11_tree 11 = .ok (.ifCond .ne 5, 3) := by decide +kernel
theorem dX11_tree_14 : decode cX11_tree 14 = .ok (.iconst (-1), 1) := by decide +kernel
theorem dX11_tree_15 : decode cX11_tree 15 = .ok (.ireturn, 1) := by decide +kernel
theorem dX11_tree_16 : decode cX11_tree 16 = .ok (.aload_n 0, 1) := by decide +kernel
theorem dX11_tree_17 : decode cX11_tree 17 = .ok (.invokevirtual 269, 3) := by decide +kernel
theorem dX11_tree_20 : decode cX11_tree 20 = .ok (.istore_n 3, 1) := by decide +kernel
theorem dX11_tree_21 : decode cX11_tree 21 = .ok (.iload_n 3, 1) := by decide +kernel
theorem dX11_tree_22 : decode cX11_tree 22 = .ok (.ifCond .eq 5, 3) := by decide +kernel
theorem dX11_tree_25 : decode cX11_tree 25 = .ok (.iload_n 3, 1) := by decide +kernel
theorem dX11_tree_26 : decode cX11_tree 26 = .ok (.ireturn, 1) := by decide +kernel
theorem dX11_tree_27 : decode cX11_tree 27 = .ok (.aload_n 0, 1) := by decide +kernel
theorem dX11_tree_28 : decode cX11_tree 28 = .ok (.iload_n 1, 1) := by decide +kernel
theorem dX11_tree_29 : decode cX11_tree 29 = .ok (.invokevirtual 272, 3) := by decide +kernel
theorem dX11_tree_32 : decode cX11_tree 32 = .ok (.astore 4, 2) := by decide +kernel
theorem dX11_tree_34 : decode cX11_tree 34 = .ok (.aload 4, 2) := by decide +kernel
theorem dX11_tree_36 : decode cX11_tree 36 = .ok (.iload_n 2, 1) := by decide +kernel
theorem dX11_tree_37 : decode cX11_tree 37 = .ok (.invokevirtual 282, 3) := by decide +kernel
theorem dX11_tree_40 : decode cX11_tree 40 = .ok (.ifCond .ne 6, 3) := by decide +kernel
theorem dX11_tree_43 : decode cX11_tree 43 = .ok (.bipush (-7), 2) := by decide +kernel
theorem dX11_tree_45 : decode cX11_tree 45 = .ok (.ireturn, 1) := by decide +kernel
theorem dX11_tree_46 : decode cX11_tree 46 = .ok (.aload 4, 2) := by decide +kernel
theorem dX11_tree_48 : decode cX11_tree 48 = .ok (.aload_n 0, 1) := by decide +kernel
theorem dX11_tree_49 : decode cX11_tree 49 = .ok (.getfield 68, 3) := by decide +kernel
theorem dX11_tree_52 : decode cX11_tree 52 = .ok (.iload_n 2, 1) := by decide +kernel
theorem dX11_tree_53 : decode cX11_tree 53 = .ok (.invokevirtual 291, 3) := by decide +kernel
theorem dX11_tree_56 : decode cX11_tree 56 = .ok (.aload_n 0, 1) := by decide +kernel
theorem dX11_tree_57 : decode cX11_tree 57 = .ok (.getfield 68, 3) := by decide +kernel
theorem dX11_tree_60 : decode cX11_tree 60 = .ok (.getfield 110, 3) := by decide +kernel
theorem dX11_tree_63 : decode cX11_tree 63 = .ok (.ireturn, 1) := by decide +kernel
theorem dX11_isPool_0 : decode cX11_isPool 0 = .ok (.iload_n 0, 1) := by decide +kernel
theorem dX11_isPool_1 : decode cX11_isPool 1 = .ok (.ifCond .eq 8, 3) := by decide +kernel
theorem dX11_isPool_4 : decode cX11_isPool 4 = .ok (.iload_n 0, 1) := by decide +kernel
theorem dX11_isPool_5 : decode cX11_isPool 5 = .ok (.iconst 1, 1) := by decide +kernel
theorem dX11_isPool_6 : decode cX11_isPool 6 = .ok (.if_icmp .ne 7, 3) := by decide +kernel
theorem dX11_isPool_9 : decode cX11_isPool 9 = .ok (.iconst 1, 1) := by decide +kernel
theorem dX11_isPool_10 : decode cX11_isPool 10 = .ok (.goto 4, 3) := by decide +kernel
theorem dX11_isPool_13 : decode cX11_isPool 13 = .ok (.iconst 0, 1) := by decide +kernel
theorem dX11_isPool_14 : decode cX11_isPool 14 = .ok (.ireturn, 1) := by decide +kernel
theorem dX11_isDepth_0 : decode cX11_isDepth 0 = .ok (.iload_n 0, 1) := by decide +kernel
theorem dX11_isDepth_1 : decode cX11_isDepth 1 = .ok (.ifCond .lt 13, 3) := by decide +kernel
theorem dX11_isDepth_4 : decode cX11_isDepth 4 = .ok (.iload_n 0, 1) := by decide +kernel
theorem dX11_isDepth_5 : decode cX11_isDepth 5 = .ok (.bipush 20, 2) := by decide +kernel
theorem dX11_isDepth_7 : decode cX11_isDepth 7 = .ok (.if_icmp .gt 7, 3) := by decide +kernel
theorem dX11_isDepth_10 : decode cX11_isDepth 10 = .ok (.iconst 1, 1) := by decide +kernel
theorem dX11_isDepth_11 : decode cX11_isDepth 11 = .ok (.goto 4, 3) := by decide +kernel
theorem dX11_isDepth_14 : decode cX11_isDepth 14 = .ok (.iconst 0, 1) := by decide +kernel
theorem dX11_isDepth_15 : decode cX11_isDepth 15 = .ok (.ireturn, 1) := by decide +kernel
theorem dX11_whyNoTrees_0 : decode cX11_whyNoTrees 0 = .ok (.aload_n 0, 1) := by decide +kernel
theorem dX11_whyNoTrees_1 : decode cX11_whyNoTrees 1 = .ok (.getfield 21, 3) := by decide +kernel
theorem dX11_whyNoTrees_4 : decode cX11_whyNoTrees 4 = .ok (.getfield 142, 3) := by decide +kernel
theorem dX11_whyNoTrees_7 : decode cX11_whyNoTrees 7 = .ok (.ifCond .eq 6, 3) := by decide +kernel
theorem dX11_whyNoTrees_10 : decode cX11_whyNoTrees 10 = .ok (.bipush (-6), 2) := by decide +kernel
theorem dX11_whyNoTrees_12 : decode cX11_whyNoTrees 12 = .ok (.ireturn, 1) := by decide +kernel
theorem dX11_whyNoTrees_13 : decode cX11_whyNoTrees 13 = .ok (.aload_n 0, 1) := by decide +kernel
theorem dX11_whyNoTrees_14 : decode cX11_whyNoTrees 14 = .ok (.getfield 21, 3) := by decide +kernel
theorem dX11_whyNoTrees_17 : decode cX11_whyNoTrees 17 = .ok (.getfield 182, 3) := by decide +kernel
theorem dX11_whyNoTrees_20 : decode cX11_whyNoTrees 20 = .ok (.ifCond .eq 28, 3) := by decide +kernel
theorem dX11_whyNoTrees_23 : decode cX11_whyNoTrees 23 = .ok (.aload_n 0, 1) := by decide +kernel
theorem dX11_whyNoTrees_24 : decode cX11_whyNoTrees 24 = .ok (.getfield 21, 3) := by decide +kernel
theorem dX11_whyNoTrees_27 : decode cX11_whyNoTrees 27 = .ok (.getfield 182, 3) := by decide +kernel
theorem dX11_whyNoTrees_30 : decode cX11_whyNoTrees 30 = .ok (.bipush 10, 2) := by decide +kernel
theorem dX11_whyNoTrees_32 : decode cX11_whyNoTrees 32 = .ok (.if_icmp .gt 16, 3) := by decide +kernel
theorem dX11_whyNoTrees_35 : decode cX11_whyNoTrees 35 = .ok (.aload_n 0, 1) := by decide +kernel
theorem dX11_whyNoTrees_36 : decode cX11_whyNoTrees 36 = .ok (.getfield 12, 3) := by decide +kernel
theorem dX11_whyNoTrees_39 : decode cX11_whyNoTrees 39 = .ok (.getfield 94, 3) := by decide +kernel
theorem dX11_whyNoTrees_42 : decode cX11_whyNoTrees 42 = .ok (.sipush 1296, 3) := by decide +kernel
theorem dX11_whyNoTrees_45 : decode cX11_whyNoTrees 45 = .ok (.if_icmp .le 6, 3) := by decide +kernel
theorem dX11_whyNoTrees_48 : decode cX11_whyNoTrees 48 = .ok (.bipush (-5), 2) := by decide +kernel
theorem dX11_whyNoTrees_50 : decode cX11_whyNoTrees 50 = .ok (.ireturn, 1) := by decide +kernel
theorem dX11_whyNoTrees_51 : decode cX11_whyNoTrees 51 = .ok (.iconst 0, 1) := by decide +kernel
theorem dX11_whyNoTrees_52 : decode cX11_whyNoTrees 52 = .ok (.ireturn, 1) := by decide +kernel
theorem dX11_forestOf_0 : decode cX11_forestOf 0 = .ok (.iload_n 1, 1) := by decide +kernel
theorem dX11_forestOf_1 : decode cX11_forestOf 1 = .ok (.ifCond .ne 10, 3) := by decide +kernel
theorem dX11_forestOf_4 : decode cX11_forestOf 4 = .ok (.aload_n 0, 1) := by decide +kernel
theorem dX11_forestOf_5 : decode cX11_forestOf 5 = .ok (.getfield 58, 3) := by decide +kernel
theorem dX11_forestOf_8 : decode cX11_forestOf 8 = .ok (.goto 7, 3) := by decide +kernel
theorem dX11_forestOf_11 : decode cX11_forestOf 11 = .ok (.aload_n 0, 1) := by decide +kernel
theorem dX11_forestOf_12 : decode cX11_forestOf 12 = .ok (.getfield 62, 3) := by decide +kernel
theorem dX11_forestOf_15 : decode cX11_forestOf 15 = .ok (.astore_n 2, 1) := by decide +kernel
theorem dX11_forestOf_16 : decode cX11_forestOf 16 = .ok (.aload_n 2, 1) := by decide +kernel
theorem dX11_forestOf_17 : decode cX11_forestOf 17 = .ok (.aload_n 0, 1) := by decide +kernel
theorem dX11_forestOf_18 : decode cX11_forestOf 18 = .ok (.getfield 21, 3) := by decide +kernel
theorem dX11_forestOf_21 : decode cX11_forestOf 21 = .ok (.invokevirtual 295, 3) := by decide +kernel
theorem dX11_forestOf_24 : decode cX11_forestOf 24 = .ok (.aload_n 2, 1) := by decide +kernel
theorem dX11_forestOf_25 : decode cX11_forestOf 25 = .ok (.areturn, 1) := by decide +kernel
theorem dX11_node_0 : decode cX11_node 0 = .ok (.iload_n 1, 1) := by decide +kernel
theorem dX11_node_1 : decode cX11_node 1 = .ok (.ifCond .lt 14, 3) := by decide +kernel
theorem dX11_node_4 : decode cX11_node 4 = .ok (.iload_n 1, 1) := by decide +kernel
theorem dX11_node_5 : decode cX11_node 5 = .ok (.aload_n 0, 1) := by decide +kernel
theorem dX11_node_6 : decode cX11_node 6 = .ok (.getfield 68, 3) := by decide +kernel
theorem dX11_node_9 : decode cX11_node 9 = .ok (.getfield 110, 3) := by decide +kernel
theorem dX11_node_12 : decode cX11_node 12 = .ok (.if_icmp .lt 5, 3) := by decide +kernel
theorem dX11_node_15 : decode cX11_node 15 = .ok (.iconst (-1), 1) := by decide +kernel
theorem dX11_node_16 : decode cX11_node 16 = .ok (.ireturn, 1) := by decide +kernel
theorem dX11_node_17 : decode cX11_node 17 = .ok (.iload_n 2, 1) := by decide +kernel
theorem dX11_node_18 : decode cX11_node 18 = .ok (.tableswitch 84 0 4 #[34, 44, 54, 64, 74], 34) := by decide +kernel
theorem dX11_node_52 : decode cX11_node 52 = .ok (.aload_n 0, 1) := by decide +kernel
theorem dX11_node_53 : decode cX11_node 53 = .ok (.getfield 68, 3) := by decide +kernel
theorem dX11_node_56 : decode cX11_node 56 = .ok (.getfield 299, 3) := by decide +kernel
theorem dX11_node_59 : decode cX11_node 59 = .ok (.iload_n 1, 1) := by decide +kernel
theorem dX11_node_60 : decode cX11_node 60 = .ok (.iaload, 1) := by decide +kernel
theorem dX11_node_61 : decode cX11_node 61 = .ok (.ireturn, 1) := by decide +kernel
theorem dX11_node_62 : decode cX11_node 62 = .ok (.aload_n 0, 1) := by decide +kernel
theorem dX11_node_63 : decode cX11_node 63 = .ok (.getfield 68, 3) := by decide +kernel
theorem dX11_node_66 : decode cX11_node 66 = .ok (.getfield 302, 3) := by decide +kernel
theorem dX11_node_69 : decode cX11_node 69 = .ok (.iload_n 1, 1) := by decide +kernel
theorem dX11_node_70 : decode cX11_node 70 = .ok (.iaload, 1) := by decide +kernel
theorem dX11_node_71 : decode cX11_node 71 = .ok (.ireturn, 1) := by decide +kernel
theorem dX11_node_72 : decode cX11_node 72 = .ok (.aload_n 0, 1) := by decide +kernel
theorem dX11_node_73 : decode cX11_node 73 = .ok (.getfield 68, 3) := by decide +kernel
theorem dX11_node_76 : decode cX11_node 76 = .ok (.getfield 305, 3) := by decide +kernel
theorem dX11_node_79 : decode cX11_node 79 = .ok (.iload_n 1, 1) := by decide +kernel
theorem dX11_node_80 : decode cX11_node 80 = .ok (.iaload, 1) := by decide +kernel
theorem dX11_node_81 : decode cX11_node 81 = .ok (.ireturn, 1) := by decide +kernel
theorem dX11_node_82 : decode cX11_node 82 = .ok (.aload_n 0, 1) := by decide +kernel
theorem dX11_node_83 : decode cX11_node 83 = .ok (.getfield 68, 3) := by decide +kernel
theorem dX11_node_86 : decode cX11_node 86 = .ok (.getfield 306, 3) := by decide +kernel
theorem dX11_node_89 : decode cX11_node 89 = .ok (.iload_n 1, 1) := by decide +kernel
theorem dX11_node_90 : decode cX11_node 90 = .ok (.iaload, 1) := by decide +kernel
theorem dX11_node_91 : decode cX11_node 91 = .ok (.ireturn, 1) := by decide +kernel
theorem dX11_node_92 : decode cX11_node 92 = .ok (.aload_n 0, 1) := by decide +kernel
theorem dX11_node_93 : decode cX11_node 93 = .ok (.getfield 68, 3) := by decide +kernel
theorem dX11_node_96 : decode cX11_node 96 = .ok (.getfield 307, 3) := by decide +kernel
theorem dX11_node_99 : decode cX11_node 99 = .ok (.iload_n 1, 1) := by decide +kernel
theorem dX11_node_100 : decode cX11_node 100 = .ok (.iaload, 1) := by decide +kernel
theorem dX11_node_101 : decode cX11_node 101 = .ok (.ireturn, 1) := by decide +kernel
theorem dX11_node_102 : decode cX11_node 102 = .ok (.iconst (-1), 1) := by decide +kernel
theorem dX11_node_103 : decode cX11_node 103 = .ok (.ireturn, 1) := by decide +kernel
theorem dX11_plan_0 : decode cX11_plan 0 = .ok (.aload_n 0, 1) := by decide +kernel
theorem dX11_plan_1 : decode cX11_plan 1 = .ok (.getfield 75, 3) := by decide +kernel
theorem dX11_plan_4 : decode cX11_plan 4 = .ok (.getfield 310, 3) := by decide +kernel
theorem dX11_plan_7 : decode cX11_plan 7 = .ok (.ifCond .ne 11, 3) := by decide +kernel
theorem dX11_plan_10 : decode cX11_plan 10 = .ok (.iload_n 1, 1) := by decide +kernel
theorem dX11_plan_11 : decode cX11_plan 11 = .ok (.iconst (-1), 1) := by decide +kernel
theorem dX11_plan_12 : decode cX11_plan 12 = .ok (.if_icmp .eq 30, 3) := by decide +kernel
theorem dX11_plan_15 : decode cX11_plan 15 = .ok (.goto 25, 3) := by decide +kernel
theorem dX11_plan_18 : decode cX11_plan 18 = .ok (.aload_n 0, 1) := by decide +kernel
theorem dX11_plan_19 : decode cX11_plan 19 = .ok (.getfield 75, 3) := by decide +kernel
theorem dX11_plan_22 : decode cX11_plan 22 = .ok (.iload_n 1, 1) := by decide +kernel
theorem dX11_plan_23 : decode cX11_plan 23 = .ok (.invokevirtual 311, 3) := by decide +kernel
theorem dX11_plan_26 : decode cX11_plan 26 = .ok (.ifCond .eq 14, 3) := by decide +kernel
theorem dX11_plan_29 : decode cX11_plan 29 = .ok (.aload_n 0, 1) := by decide +kernel
theorem dX11_plan_30 : decode cX11_plan 30 = .ok (.getfield 12, 3) := by decide +kernel
theorem dX11_plan_33 : decode cX11_plan 33 = .ok (.iload_n 2, 1) := by decide +kernel
theorem dX11_plan_34 : decode cX11_plan 34 = .ok (.invokevirtual 205, 3) := by decide +kernel
theorem dX11_plan_37 : decode cX11_plan 37 = .ok (.ifCond .ne 5, 3) := by decide +kernel
theorem dX11_plan_40 : decode cX11_plan 40 = .ok (.iconst (-1), 1) := by decide +kernel
theorem dX11_plan_41 : decode cX11_plan 41 = .ok (.ireturn, 1) := by decide +kernel
theorem dX11_plan_42 : decode cX11_plan 42 = .ok (.aload_n 0, 1) := by decide +kernel
theorem dX11_plan_43 : decode cX11_plan 43 = .ok (.getfield 12, 3) := by decide +kernel
theorem dX11_plan_46 : decode cX11_plan 46 = .ok (.iload_n 3, 1) := by decide +kernel
theorem dX11_plan_47 : decode cX11_plan 47 = .ok (.invokevirtual 128, 3) := by decide +kernel
theorem dX11_plan_50 : decode cX11_plan 50 = .ok (.ifCond .ne 5, 3) := by decide +kernel
theorem dX11_plan_53 : decode cX11_plan 53 = .ok (.iconst (-1), 1) := by decide +kernel
theorem dX11_plan_54 : decode cX11_plan 54 = .ok (.ireturn, 1) := by decide +kernel
theorem dX11_plan_55 : decode cX11_plan 55 = .ok (.aload_n 0, 1) := by decide +kernel
theorem dX11_plan_56 : decode cX11_plan 56 = .ok (.getfield 75, 3) := by decide +kernel
theorem dX11_plan_59 : decode cX11_plan 59 = .ok (.getfield 310, 3) := by decide +kernel
theorem dX11_plan_62 : decode cX11_plan 62 = .ok (.bipush 40, 2) := by decide +kernel
theorem dX11_plan_64 : decode cX11_plan 64 = .ok (.if_icmp .lt 6, 3) := by decide +kernel
theorem dX11_plan_67 : decode cX11_plan 67 = .ok (.bipush (-2), 2) := by decide +kernel
theorem dX11_plan_69 : decode cX11_plan 69 = .ok (.ireturn, 1) := by decide +kernel
theorem dX11_plan_70 : decode cX11_plan 70 = .ok (.aload_n 0, 1) := by decide +kernel
theorem dX11_plan_71 : decode cX11_plan 71 = .ok (.getfield 75, 3) := by decide +kernel
theorem dX11_plan_74 : decode cX11_plan 74 = .ok (.iload_n 1, 1) := by decide +kernel
theorem dX11_plan_75 : decode cX11_plan 75 = .ok (.iload_n 2, 1) := by decide +kernel
theorem dX11_plan_76 : decode cX11_plan 76 = .ok (.iload_n 3, 1) := by decide +kernel
theorem dX11_plan_77 : decode cX11_plan 77 = .ok (.invokevirtual 312, 3) := by decide +kernel
theorem dX11_plan_80 : decode cX11_plan 80 = .ok (.aload_n 0, 1) := by decide +kernel
theorem dX11_plan_81 : decode cX11_plan 81 = .ok (.getfield 75, 3) := by decide +kernel
theorem dX11_plan_84 : decode cX11_plan 84 = .ok (.getfield 310, 3) := by decide +kernel
theorem dX11_plan_87 : decode cX11_plan 87 = .ok (.iconst 1, 1) := by decide +kernel
theorem dX11_plan_88 : decode cX11_plan 88 = .ok (.isub, 1) := by decide +kernel
theorem dX11_plan_89 : decode cX11_plan 89 = .ok (.ireturn, 1) := by decide +kernel
theorem dX11_drop_0 : decode cX11_drop 0 = .ok (.aload_n 0, 1) := by decide +kernel
theorem dX11_drop_1 : decode cX11_drop 1 = .ok (.getfield 75, 3) := by decide +kernel
theorem dX11_drop_4 : decode cX11_drop 4 = .ok (.getfield 310, 3) := by decide +kernel
theorem dX11_drop_7 : decode cX11_drop 7 = .ok (.istore_n 1, 1) := by decide +kernel
theorem dX11_drop_8 : decode cX11_drop 8 = .ok (.aload_n 0, 1) := by decide +kernel
theorem dX11_drop_9 : decode cX11_drop 9 = .ok (.getfield 75, 3) := by decide +kernel
theorem dX11_drop_12 : decode cX11_drop 12 = .ok (.invokevirtual 113, 3) := by decide +kernel
theorem dX11_drop_15 : decode cX11_drop 15 = .ok (.iload_n 1, 1) := by decide +kernel
theorem dX11_drop_16 : decode cX11_drop 16 = .ok (.ireturn, 1) := by decide +kernel
theorem dX11_judge_0 : decode cX11_judge 0 = .ok (.aload_n 0, 1) := by decide +kernel
theorem dX11_judge_1 : decode cX11_judge 1 = .ok (.getfield 75, 3) := by decide +kernel
theorem dX11_judge_4 : decode cX11_judge 4 = .ok (.getfield 310, 3) := by decide +kernel
theorem dX11_judge_7 : decode cX11_judge 7 = .ok (.ifCond .eq 13, 3) := by decide +kernel
theorem dX11_judge_10 : decode cX11_judge 10 = .ok (.aload_n 0, 1) := by decide +kernel
theorem dX11_judge_11 : decode cX11_judge 11 = .ok (.getfield 21, 3) := by decide +kernel
theorem dX11_judge_14 : decode cX11_judge 14 = .ok (.getfield 182, 3) := by decide +kernel
theorem dX11_judge_17 : decode cX11_judge 17 = .ok (.ifCond .ne 5, 3) := by decide +kernel
theorem dX11_judge_20 : decode cX11_judge 20 = .ok (.iconst (-1), 1) := by decide +kernel
theorem dX11_judge_21 : decode cX11_judge 21 = .ok (.ireturn, 1) := by decide +kernel
theorem dX11_judge_22 : decode cX11_judge 22 = .ok (.aload_n 0, 1) := by decide +kernel
theorem dX11_judge_23 : decode cX11_judge 23 = .ok (.getfield 21, 3) := by decide +kernel
theorem dX11_judge_26 : decode cX11_judge 26 = .ok (.getfield 142, 3) := by decide +kernel
theorem dX11_judge_29 : decode cX11_judge 29 = .ok (.ifCond .eq 6, 3) := by decide +kernel
theorem dX11_judge_32 : decode cX11_judge 32 = .ok (.bipush (-6), 2) := by decide +kernel
theorem dX11_judge_34 : decode cX11_judge 34 = .ok (.ireturn, 1) := by decide +kernel
theorem dX11_judge_35 : decode cX11_judge 35 = .ok (.aload_n 0, 1) := by decide +kernel
theorem dX11_judge_36 : decode cX11_judge 36 = .ok (.getfield 75, 3) := by decide +kernel
theorem dX11_judge_39 : decode cX11_judge 39 = .ok (.aload_n 0, 1) := by decide +kernel
theorem dX11_judge_40 : decode cX11_judge 40 = .ok (.getfield 21, 3) := by decide +kernel
theorem dX11_judge_43 : decode cX11_judge 43 = .ok (.invokevirtual 316, 3) := by decide +kernel
theorem dX11_judge_46 : decode cX11_judge 46 = .ok (.aload_n 0, 1) := by decide +kernel
theorem dX11_judge_47 : decode cX11_judge 47 = .ok (.getfield 75, 3) := by decide +kernel
theorem dX11_judge_50 : decode cX11_judge 50 = .ok (.invokevirtual 319, 3) := by decide +kernel
theorem dX11_judge_53 : decode cX11_judge 53 = .ok (.istore_n 1, 1) := by decide +kernel
theorem dX11_judge_54 : decode cX11_judge 54 = .ok (.iload_n 1, 1) := by decide +kernel
theorem dX11_judge_55 : decode cX11_judge 55 = .ok (.iconst (-1), 1) := by decide +kernel
theorem dX11_judge_56 : decode cX11_judge 56 = .ok (.if_icmp .ne 13, 3) := by decide +kernel
theorem dX11_judge_59 : decode cX11_judge 59 = .ok (.aload_n 0, 1) := by decide +kernel
theorem dX11_judge_60 : decode cX11_judge 60 = .ok (.getfield 75, 3) := by decide +kernel
theorem dX11_judge_63 : decode cX11_judge 63 = .ok (.getfield 322, 3) := by decide +kernel
theorem dX11_judge_66 : decode cX11_judge 66 = .ok (.goto 7, 3) := by decide +kernel
theorem dX11_judge_69 : decode cX11_judge 69 = .ok (.bipush (-20), 2) := by decide +kernel
theorem dX11_judge_71 : decode cX11_judge 71 = .ok (.iload_n 1, 1) := by decide +kernel
theorem dX11_judge_72 : decode cX11_judge 72 = .ok (.isub, 1) := by decide +kernel
theorem dX11_judge_73 : decode cX11_judge 73 = .ok (.ireturn, 1) := by decide +kernel
theorem dX11_total_0 : decode cX11_total 0 = .ok (.aload_n 0, 1) := by decide +kernel
theorem dX11_total_1 : decode cX11_total 1 = .ok (.invokevirtual 325, 3) := by decide +kernel
theorem dX11_total_4 : decode cX11_total 4 = .ok (.ifCond .le 13, 3) := by decide +kernel
theorem dX11_total_7 : decode cX11_total 7 = .ok (.aload_n 0, 1) := by decide +kernel
theorem dX11_total_8 : decode cX11_total 8 = .ok (.getfield 75, 3) := by decide +kernel
theorem dX11_total_11 : decode cX11_total 11 = .ok (.getfield 328, 3) := by decide +kernel
theorem dX11_total_14 : decode cX11_total 14 = .ok (.goto 4, 3) := by decide +kernel
theorem dX11_total_17 : decode cX11_total 17 = .ok (.iconst (-1), 1) := by decide +kernel
theorem dX11_total_18 : decode cX11_total 18 = .ok (.ireturn, 1) := by decide +kernel
theorem dX11_rack_0 : decode cX11_rack 0 = .ok (.iload_n 1, 1) := by decide +kernel
theorem dX11_rack_1 : decode cX11_rack 1 = .ok (.invokestatic 331, 3) := by decide +kernel
theorem dX11_rack_4 : decode cX11_rack 4 = .ok (.ifCond .eq 19, 3) := by decide +kernel
theorem dX11_rack_7 : decode cX11_rack 7 = .ok (.iload_n 2, 1) := by decide +kernel
theorem dX11_rack_8 : decode cX11_rack 8 = .ok (.iconst 1, 1) := by decide +kernel
theorem dX11_rack_9 : decode cX11_rack 9 = .ok (.if_icmp .lt 14, 3) := by decide +kernel
theorem dX11_rack_12 : decode cX11_rack 12 = .ok (.iload_n 2, 1) := by decide +kernel
theorem dX11_rack_13 : decode cX11_rack 13 = .ok (.iconst 3, 1) := by decide +kernel
theorem dX11_rack_14 : decode cX11_rack 14 = .ok (.if_icmp .gt 9, 3) := by decide +kernel
theorem dX11_rack_17 : decode cX11_rack 17 = .ok (.iload_n 3, 1) := by decide +kernel
theorem dX11_rack_18 : decode cX11_rack 18 = .ok (.bipush 60, 2) := by decide +kernel
theorem dX11_rack_20 : decode cX11_rack 20 = .ok (.if_icmp .le 5, 3) := by decide +kernel
theorem dX11_rack_23 : decode cX11_rack 23 = .ok (.iconst (-1), 1) := by decide +kernel
theorem dX11_rack_24 : decode cX11_rack 24 = .ok (.ireturn, 1) := by decide +kernel
theorem dX11_rack_25 : decode cX11_rack 25 = .ok (.iload_n 3, 1) := by decide +kernel
theorem dX11_rack_26 : decode cX11_rack 26 = .ok (.ifCond .ge 10, 3) := by decide +kernel
theorem dX11_rack_29 : decode cX11_rack 29 = .ok (.aload_n 0, 1) := by decide +kernel
theorem dX11_rack_30 : decode cX11_rack 30 = .ok (.bipush (-14), 2) := by decide +kernel
theorem dX11_rack_32 : decode cX11_rack 32 = .ok (.invokevirtual 151, 3) := by decide +kernel
theorem dX11_rack_35 : decode cX11_rack 35 = .ok (.ireturn, 1) := by decide +kernel
theorem dX11_rack_36 : decode cX11_rack 36 = .ok (.aload_n 0, 1) := by decide +kernel
theorem dX11_rack_37 : decode cX11_rack 37 = .ok (.getfield 81, 3) := by decide +kernel
theorem dX11_rack_40 : decode cX11_rack 40 = .ok (.iload_n 1, 1) := by decide +kernel
theorem dX11_rack_41 : decode cX11_rack 41 = .ok (.aaload, 1) := by decide +kernel
theorem dX11_rack_42 : decode cX11_rack 42 = .ok (.iload_n 2, 1) := by decide +kernel
theorem dX11_rack_43 : decode cX11_rack 43 = .ok (.iload_n 3, 1) := by decide +kernel
theorem dX11_rack_44 : decode cX11_rack 44 = .ok (.invokevirtual 334, 3) := by decide +kernel
theorem dX11_rack_47 : decode cX11_rack 47 = .ok (.iload_n 3, 1) := by decide +kernel
theorem dX11_rack_48 : decode cX11_rack 48 = .ok (.ireturn, 1) := by decide +kernel
theorem dX11_keep_0 : decode cX11_keep 0 = .ok (.iload_n 1, 1) := by decide +kernel
theorem dX11_keep_1 : decode cX11_keep 1 = .ok (.invokestatic 331, 3) := by decide +kernel
theorem dX11_keep_4 : decode cX11_keep 4 = .ok (.ifCond .ne 5, 3) := by decide +kernel
theorem dX11_keep_7 : decode cX11_keep 7 = .ok (.iconst (-1), 1) := by decide +kernel
theorem dX11_keep_8 : decode cX11_keep 8 = .ok (.ireturn, 1) := by decide +kernel
theorem dX11_keep_9 : decode cX11_keep 9 = .ok (.aload_n 0, 1) := by decide +kernel
theorem dX11_keep_10 : decode cX11_keep 10 = .ok (.invokevirtual 171, 3) := by decide +kernel
theorem dX11_keep_13 : decode cX11_keep 13 = .ok (.istore_n 2, 1) := by decide +kernel
theorem dX11_keep_14 : decode cX11_keep 14 = .ok (.aload_n 0, 1) := by decide +kernel
theorem dX11_keep_15 : decode cX11_keep 15 = .ok (.getfield 81, 3) := by decide +kernel
theorem dX11_keep_18 : decode cX11_keep 18 = .ok (.iload_n 1, 1) := by decide +kernel
theorem dX11_keep_19 : decode cX11_keep 19 = .ok (.aaload, 1) := by decide +kernel
theorem dX11_keep_20 : decode cX11_keep 20 = .ok (.aload_n 0, 1) := by decide +kernel
theorem dX11_keep_21 : decode cX11_keep 21 = .ok (.getfield 28, 3) := by decide +kernel
theorem dX11_keep_24 : decode cX11_keep 24 = .ok (.aload_n 0, 1) := by decide +kernel
theorem dX11_keep_25 : decode cX11_keep 25 = .ok (.getfield 12, 3) := by decide +kernel
theorem dX11_keep_28 : decode cX11_keep 28 = .ok (.getfield 162, 3) := by decide +kernel
theorem dX11_keep_31 : decode cX11_keep 31 = .ok (.iload_n 2, 1) := by decide +kernel
theorem dX11_keep_32 : decode cX11_keep 32 = .ok (.invokevirtual 337, 3) := by decide +kernel
theorem dX11_keep_35 : decode cX11_keep 35 = .ok (.iload_n 2, 1) := by decide +kernel
theorem dX11_keep_36 : decode cX11_keep 36 = .ok (.ireturn, 1) := by decide +kernel
theorem dX11_clear_0 : decode cX11_clear 0 = .ok (.iload_n 1, 1) := by decide +kernel
theorem dX11_clear_1 : decode cX11_clear 1 = .ok (.invokestatic 331, 3) := by decide +kernel
theorem dX11_clear_4 : decode cX11_clear 4 = .ok (.ifCond .ne 5, 3) := by decide +kernel
theorem dX11_clear_7 : decode cX11_clear 7 = .ok (.iconst (-1), 1) := by decide +kernel
theorem dX11_clear_8 : decode cX11_clear 8 = .ok (.ireturn, 1) := by decide +kernel
theorem dX11_clear_9 : decode cX11_clear 9 = .ok (.aload_n 0, 1) := by decide +kernel
theorem dX11_clear_10 : decode cX11_clear 10 = .ok (.getfield 81, 3) := by decide +kernel
theorem dX11_clear_13 : decode cX11_clear 13 = .ok (.iload_n 1, 1) := by decide +kernel
theorem dX11_clear_14 : decode cX11_clear 14 = .ok (.aaload, 1) := by decide +kernel
theorem dX11_clear_15 : decode cX11_clear 15 = .ok (.getfield 341, 3) := by decide +kernel
theorem dX11_clear_18 : decode cX11_clear 18 = .ok (.istore_n 2, 1) := by decide +kernel
theorem dX11_clear_19 : decode cX11_clear 19 = .ok (.aload_n 0, 1) := by decide +kernel
theorem dX11_clear_20 : decode cX11_clear 20 = .ok (.getfield 81, 3) := by decide +kernel
theorem dX11_clear_23 : decode cX11_clear 23 = .ok (.iload_n 1, 1) := by decide +kernel
theorem dX11_clear_24 : decode cX11_clear 24 = .ok (.aaload, 1) := by decide +kernel
theorem dX11_clear_25 : decode cX11_clear 25 = .ok (.iconst 0, 1) := by decide +kernel
theorem dX11_clear_26 : decode cX11_clear 26 = .ok (.putfield 341, 3) := by decide +kernel
theorem dX11_clear_29 : decode cX11_clear 29 = .ok (.iload_n 2, 1) := by decide +kernel
theorem dX11_clear_30 : decode cX11_clear 30 = .ok (.ireturn, 1) := by decide +kernel
theorem dX11_put_0 : decode cX11_put 0 = .ok (.iload_n 1, 1) := by decide +kernel
theorem dX11_put_1 : decode cX11_put 1 = .ok (.invokestatic 331, 3) := by decide +kernel
theorem dX11_put_4 : decode cX11_put 4 = .ok (.ifCond .ne 5, 3) := by decide +kernel
theorem dX11_put_7 : decode cX11_put 7 = .ok (.iconst (-1), 1) := by decide +kernel
theorem dX11_put_8 : decode cX11_put 8 = .ok (.ireturn, 1) := by decide +kernel
theorem dX11_put_9 : decode cX11_put 9 = .ok (.aload_n 0, 1) := by decide +kernel
theorem dX11_put_10 : decode cX11_put 10 = .ok (.getfield 81, 3) := by decide +kernel
theorem dX11_put_13 : decode cX11_put 13 = .ok (.iload_n 1, 1) := by decide +kernel
theorem dX11_put_14 : decode cX11_put 14 = .ok (.aaload, 1) := by decide +kernel
theorem dX11_put_15 : decode cX11_put 15 = .ok (.astore 4, 2) := by decide +kernel
theorem dX11_put_17 : decode cX11_put 17 = .ok (.aload 4, 2) := by decide +kernel
theorem dX11_put_19 : decode cX11_put 19 = .ok (.invokevirtual 344, 3) := by decide +kernel
theorem dX11_put_22 : decode cX11_put 22 = .ok (.istore 5, 2) := by decide +kernel
theorem dX11_put_24 : decode cX11_put 24 = .ok (.iload 5, 2) := by decide +kernel
theorem dX11_put_26 : decode cX11_put 26 = .ok (.ifCond .eq 10, 3) := by decide +kernel
theorem dX11_put_29 : decode cX11_put 29 = .ok (.aload_n 0, 1) := by decide +kernel
theorem dX11_put_30 : decode cX11_put 30 = .ok (.iload 5, 2) := by decide +kernel
theorem dX11_put_32 : decode cX11_put 32 = .ok (.invokevirtual 151, 3) := by decide +kernel
theorem dX11_put_35 : decode cX11_put 35 = .ok (.ireturn, 1) := by decide +kernel
theorem dX11_put_36 : decode cX11_put 36 = .ok (.aload 4, 2) := by decide +kernel
theorem dX11_put_38 : decode cX11_put 38 = .ok (.iload_n 2, 1) := by decide +kernel
theorem dX11_put_39 : decode cX11_put 39 = .ok (.iconst 1, 1) := by decide +kernel
theorem dX11_put_40 : decode cX11_put 40 = .ok (.invokevirtual 347, 3) := by decide +kernel
theorem dX11_put_43 : decode cX11_put 43 = .ok (.ifCond .ne 10, 3) := by decide +kernel
theorem dX11_put_46 : decode cX11_put 46 = .ok (.aload_n 0, 1) := by decide +kernel
theorem dX11_put_47 : decode cX11_put 47 = .ok (.bipush (-13), 2) := by decide +kernel
theorem dX11_put_49 : decode cX11_put 49 = .ok (.invokevirtual 151, 3) := by decide +kernel
theorem dX11_put_52 : decode cX11_put 52 = .ok (.ireturn, 1) := by decide +kernel
theorem dX11_put_53 : decode cX11_put 53 = .ok (.aload 4, 2) := by decide +kernel
theorem dX11_put_55 : decode cX11_put 55 = .ok (.getfield 351, 3) := by decide +kernel
theorem dX11_put_58 : decode cX11_put 58 = .ok (.iload_n 2, 1) := by decide +kernel
theorem dX11_put_59 : decode cX11_put 59 = .ok (.iaload, 1) := by decide +kernel
theorem dX11_put_60 : decode cX11_put 60 = .ok (.istore 6, 2) := by decide +kernel
theorem dX11_put_62 : decode cX11_put 62 = .ok (.aload 4, 2) := by decide +kernel
theorem dX11_put_64 : decode cX11_put 64 = .ok (.getfield 351, 3) := by decide +kernel
theorem dX11_put_67 : decode cX11_put 67 = .ok (.iload_n 2, 1) := by decide +kernel
theorem dX11_put_68 : decode cX11_put 68 = .ok (.aload 4, 2) := by decide +kernel
theorem dX11_put_70 : decode cX11_put 70 = .ok (.iload_n 3, 1) := by decide +kernel
theorem dX11_put_71 : decode cX11_put 71 = .ok (.invokevirtual 354, 3) := by decide +kernel
theorem dX11_put_74 : decode cX11_put 74 = .ok (.iastore, 1) := by decide +kernel
theorem dX11_put_75 : decode cX11_put 75 = .ok (.iload 6, 2) := by decide +kernel
theorem dX11_put_77 : decode cX11_put 77 = .ok (.ireturn, 1) := by decide +kernel
theorem dX11_at_0 : decode cX11_at 0 = .ok (.iload_n 1, 1) := by decide +kernel
theorem dX11_at_1 : decode cX11_at 1 = .ok (.invokestatic 331, 3) := by decide +kernel
theorem dX11_at_4 : decode cX11_at 4 = .ok (.ifCond .ne 14, 3) := by decide +kernel
theorem dX11_at_7 : decode cX11_at 7 = .ok (.new 357, 3) := by decide +kernel
theorem dX11_at_10 : decode cX11_at 10 = .ok (.dup, 1) := by decide +kernel
theorem dX11_at_11 : decode cX11_at 11 = .ok (.ldc_w 359, 3) := by decide +kernel
theorem dX11_at_14 : decode cX11_at 14 = .ok (.invokespecial 361, 3) := by decide +kernel
theorem dX11_at_17 : decode cX11_at 17 = .ok (.athrow, 1) := by decide +kernel
theorem dX11_at_18 : decode cX11_at 18 = .ok (.aload_n 0, 1) := by decide +kernel
theorem dX11_at_19 : decode cX11_at 19 = .ok (.getfield 81, 3) := by decide +kernel
theorem dX11_at_22 : decode cX11_at 22 = .ok (.iload_n 1, 1) := by decide +kernel
theorem dX11_at_23 : decode cX11_at 23 = .ok (.aaload, 1) := by decide +kernel
theorem dX11_at_24 : decode cX11_at 24 = .ok (.astore_n 3, 1) := by decide +kernel
theorem dX11_at_25 : decode cX11_at 25 = .ok (.aload_n 3, 1) := by decide +kernel
theorem dX11_at_26 : decode cX11_at 26 = .ok (.invokevirtual 344, 3) := by decide +kernel
theorem dX11_at_29 : decode cX11_at 29 = .ok (.ifCond .eq 14, 3) := by decide +kernel
theorem dX11_at_32 : decode cX11_at 32 = .ok (.new 364, 3) := by decide +kernel
theorem dX11_at_35 : decode cX11_at 35 = .ok (.dup, 1) := by decide +kernel
theorem dX11_at_36 : decode cX11_at 36 = .ok (.ldc_w 366, 3) := by decide +kernel
theorem dX11_at_39 : decode cX11_at 39 = .ok (.invokespecial 368, 3) := by decide +kernel
theorem dX11_at_42 : decode cX11_at 42 = .ok (.athrow, 1) := by decide +kernel
theorem dX11_at_43 : decode cX11_at 43 = .ok (.aload_n 3, 1) := by decide +kernel
theorem dX11_at_44 : decode cX11_at 44 = .ok (.iload_n 2, 1) := by decide +kernel
theorem dX11_at_45 : decode cX11_at 45 = .ok (.iconst 1, 1) := by decide +kernel
theorem dX11_at_46 : decode cX11_at 46 = .ok (.invokevirtual 347, 3) := by decide +kernel
theorem dX11_at_49 : decode cX11_at 49 = .ok (.ifCond .ne 14, 3) := by decide +kernel
theorem dX11_at_52 : decode cX11_at 52 = .ok (.new 364, 3) := by decide +kernel
theorem dX11_at_55 : decode cX11_at 55 = .ok (.dup, 1) := by decide +kernel
theorem dX11_at_56 : decode cX11_at 56 = .ok (.ldc_w 369, 3) := by decide +kernel
theorem dX11_at_59 : decode cX11_at 59 = .ok (.invokespecial 368, 3) := by decide +kernel
theorem dX11_at_62 : decode cX11_at 62 = .ok (.athrow, 1) := by decide +kernel
theorem dX11_at_63 : decode cX11_at 63 = .ok (.aload_n 3, 1) := by decide +kernel
theorem dX11_at_64 : decode cX11_at 64 = .ok (.getfield 351, 3) := by decide +kernel
theorem dX11_at_67 : decode cX11_at 67 = .ok (.iload_n 2, 1) := by decide +kernel
theorem dX11_at_68 : decode cX11_at 68 = .ok (.iaload, 1) := by decide +kernel
theorem dX11_at_69 : decode cX11_at 69 = .ok (.ireturn, 1) := by decide +kernel
theorem dX11_copy_0 : decode cX11_copy 0 = .ok (.iload_n 1, 1) := by decide +kernel
theorem dX11_copy_1 : decode cX11_copy 1 = .ok (.invokestatic 331, 3) := by decide +kernel
theorem dX11_copy_4 : decode cX11_copy 4 = .ok (.ifCond .eq 10, 3) := by decide +kernel
theorem dX11_copy_7 : decode cX11_copy 7 = .ok (.iload_n 3, 1) := by decide +kernel
theorem dX11_copy_8 : decode cX11_copy 8 = .ok (.invokestatic 331, 3) := by decide +kernel
theorem dX11_copy_11 : decode cX11_copy 11 = .ok (.ifCond .ne 5, 3) := by decide +kernel
theorem dX11_copy_14 : decode cX11_copy 14 = .ok (.iconst (-1), 1) := by decide +kernel
theorem dX11_copy_15 : decode cX11_copy 15 = .ok (.ireturn, 1) := by decide +kernel
theorem dX11_copy_16 : decode cX11_copy 16 = .ok (.aload_n 0, 1) := by decide +kernel
theorem dX11_copy_17 : decode cX11_copy 17 = .ok (.getfield 81, 3) := by decide +kernel
theorem dX11_copy_20 : decode cX11_copy 20 = .ok (.iload_n 1, 1) := by decide +kernel
theorem dX11_copy_21 : decode cX11_copy 21 = .ok (.aaload, 1) := by decide +kernel
theorem dX11_copy_22 : decode cX11_copy 22 = .ok (.astore 6, 2) := by decide +kernel
theorem dX11_copy_24 : decode cX11_copy 24 = .ok (.aload_n 0, 1) := by decide +kernel
theorem dX11_copy_25 : decode cX11_copy 25 = .ok (.getfield 81, 3) := by decide +kernel
theorem dX11_copy_28 : decode cX11_copy 28 = .ok (.iload_n 3, 1) := by decide +kernel
theorem dX11_copy_29 : decode cX11_copy 29 = .ok (.aaload, 1) := by decide +kernel
theorem dX11_copy_30 : decode cX11_copy 30 = .ok (.astore 7, 2) := by decide +kernel
theorem dX11_copy_32 : decode cX11_copy 32 = .ok (.aload 6, 2) := by decide +kernel
theorem dX11_copy_34 : decode cX11_copy 34 = .ok (.getfield 341, 3) := by decide +kernel
theorem dX11_copy_37 : decode cX11_copy 37 = .ok (.ifCond .eq 11, 3) := by decide +kernel
theorem dX11_copy_40 : decode cX11_copy 40 = .ok (.aload 7, 2) := by decide +kernel
theorem dX11_copy_42 : decode cX11_copy 42 = .ok (.getfield 341, 3) := by decide +kernel
theorem dX11_copy_45 : decode cX11_copy 45 = .ok (.ifCond .ne 10, 3) := by decide +kernel
theorem dX11_copy_48 : decode cX11_copy 48 = .ok (.aload_n 0, 1) := by decide +kernel
theorem dX11_copy_49 : decode cX11_copy 49 = .ok (.bipush (-11), 2) := by decide +kernel
theorem dX11_copy_51 : decode cX11_copy 51 = .ok (.invokevirtual 151, 3) := by decide +kernel
theorem dX11_copy_54 : decode cX11_copy 54 = .ok (.ireturn, 1) := by decide +kernel
theorem dX11_copy_55 : decode cX11_copy 55 = .ok (.aload 6, 2) := by decide +kernel
theorem dX11_copy_57 : decode cX11_copy 57 = .ok (.invokevirtual 344, 3) := by decide +kernel
theorem dX11_copy_60 : decode cX11_copy 60 = .ok (.ifCond .ne 16, 3) := by decide +kernel
theorem dX11_copy_63 : decode cX11_copy 63 = .ok (.aload 6, 2) := by decide +kernel
theorem dX11_copy_65 : decode cX11_copy 65 = .ok (.getfield 341, 3) := by decide +kernel
theorem dX11_copy_68 : decode cX11_copy 68 = .ok (.aload 7, 2) := by decide +kernel
theorem dX11_copy_70 : decode cX11_copy 70 = .ok (.getfield 341, 3) := by decide +kernel
theorem dX11_copy_73 : decode cX11_copy 73 = .ok (.if_icmp .eq 10, 3) := by decide +kernel
theorem dX11_copy_76 : decode cX11_copy 76 = .ok (.aload_n 0, 1) := by decide +kernel
theorem dX11_copy_77 : decode cX11_copy 77 = .ok (.bipush (-12), 2) := by decide +kernel
theorem dX11_copy_79 : decode cX11_copy 79 = .ok (.invokevirtual 151, 3) := by decide +kernel
theorem dX11_copy_82 : decode cX11_copy 82 = .ok (.ireturn, 1) := by decide +kernel
theorem dX11_copy_83 : decode cX11_copy 83 = .ok (.aload 6, 2) := by decide +kernel
theorem dX11_copy_85 : decode cX11_copy 85 = .ok (.iload_n 2, 1) := by decide +kernel
theorem dX11_copy_86 : decode cX11_copy 86 = .ok (.iload 5, 2) := by decide +kernel
theorem dX11_copy_88 : decode cX11_copy 88 = .ok (.invokevirtual 347, 3) := by decide +kernel
theorem dX11_copy_91 : decode cX11_copy 91 = .ok (.ifCond .eq 15, 3) := by decide +kernel
theorem dX11_copy_94 : decode cX11_copy 94 = .ok (.aload 7, 2) := by decide +kernel
theorem dX11_copy_96 : decode cX11_copy 96 = .ok (.iload 4, 2) := by decide +kernel
theorem dX11_copy_98 : decode cX11_copy 98 = .ok (.iload 5, 2) := by decide +kernel
theorem dX11_copy_100 : decode cX11_copy 100 = .ok (.invokevirtual 347, 3) := by decide +kernel
theorem dX11_copy_103 : decode cX11_copy 103 = .ok (.ifCond .ne 10, 3) := by decide +kernel
theorem dX11_copy_106 : decode cX11_copy 106 = .ok (.aload_n 0, 1) := by decide +kernel
theorem dX11_copy_107 : decode cX11_copy 107 = .ok (.bipush (-13), 2) := by decide +kernel
theorem dX11_copy_109 : decode cX11_copy 109 = .ok (.invokevirtual 151, 3) := by decide +kernel
theorem dX11_copy_112 : decode cX11_copy 112 = .ok (.ireturn, 1) := by decide +kernel
theorem dX11_copy_113 : decode cX11_copy 113 = .ok (.aload 6, 2) := by decide +kernel
theorem dX11_copy_115 : decode cX11_copy 115 = .ok (.getfield 351, 3) := by decide +kernel
theorem dX11_copy_118 : decode cX11_copy 118 = .ok (.iload_n 2, 1) := by decide +kernel
theorem dX11_copy_119 : decode cX11_copy 119 = .ok (.aload 7, 2) := by decide +kernel
theorem dX11_copy_121 : decode cX11_copy 121 = .ok (.getfield 351, 3) := by decide +kernel
theorem dX11_copy_124 : decode cX11_copy 124 = .ok (.iload 4, 2) := by decide +kernel
theorem dX11_copy_126 : decode cX11_copy 126 = .ok (.iload 5, 2) := by decide +kernel
theorem dX11_copy_128 : decode cX11_copy 128 = .ok (.invokestatic 371, 3) := by decide +kernel
theorem dX11_copy_131 : decode cX11_copy 131 = .ok (.iload 5, 2) := by decide +kernel
theorem dX11_copy_133 : decode cX11_copy 133 = .ok (.ireturn, 1) := by decide +kernel
theorem dX11_take_0 : decode cX11_take 0 = .ok (.iload_n 1, 1) := by decide +kernel
theorem dX11_take_1 : decode cX11_take 1 = .ok (.invokestatic 331, 3) := by decide +kernel
theorem dX11_take_4 : decode cX11_take 4 = .ok (.ifCond .ne 5, 3) := by decide +kernel
theorem dX11_take_7 : decode cX11_take 7 = .ok (.iconst (-1), 1) := by decide +kernel
theorem dX11_take_8 : decode cX11_take 8 = .ok (.ireturn, 1) := by decide +kernel
theorem dX11_take_9 : decode cX11_take 9 = .ok (.aload_n 0, 1) := by decide +kernel
theorem dX11_take_10 : decode cX11_take 10 = .ok (.getfield 81, 3) := by decide +kernel
theorem dX11_take_13 : decode cX11_take 13 = .ok (.iload_n 1, 1) := by decide +kernel
theorem dX11_take_14 : decode cX11_take 14 = .ok (.aaload, 1) := by decide +kernel
theorem dX11_take_15 : decode cX11_take 15 = .ok (.astore_n 3, 1) := by decide +kernel
theorem dX11_take_16 : decode cX11_take 16 = .ok (.aload_n 3, 1) := by decide +kernel
theorem dX11_take_17 : decode cX11_take 17 = .ok (.invokevirtual 344, 3) := by decide +kernel
theorem dX11_take_20 : decode cX11_take 20 = .ok (.istore 4, 2) := by decide +kernel
theorem dX11_take_22 : decode cX11_take 22 = .ok (.iload 4, 2) := by decide +kernel
theorem dX11_take_24 : decode cX11_take 24 = .ok (.ifCond .eq 10, 3) := by decide +kernel
theorem dX11_take_27 : decode cX11_take 27 = .ok (.aload_n 0, 1) := by decide +kernel
theorem dX11_take_28 : decode cX11_take 28 = .ok (.iload 4, 2) := by decide +kernel
theorem dX11_take_30 : decode cX11_take 30 = .ok (.invokevirtual 151, 3) := by decide +kernel
theorem dX11_take_33 : decode cX11_take 33 = .ok (.ireturn, 1) := by decide +kernel
theorem dX11_take_34 : decode cX11_take 34 = .ok (.aload_n 3, 1) := by decide +kernel
theorem dX11_take_35 : decode cX11_take 35 = .ok (.iload_n 2, 1) := by decide +kernel
theorem dX11_take_36 : decode cX11_take 36 = .ok (.aload_n 0, 1) := by decide +kernel
theorem dX11_take_37 : decode cX11_take 37 = .ok (.getfield 12, 3) := by decide +kernel
theorem dX11_take_40 : decode cX11_take 40 = .ok (.getfield 162, 3) := by decide +kernel
theorem dX11_take_43 : decode cX11_take 43 = .ok (.invokevirtual 347, 3) := by decide +kernel
theorem dX11_take_46 : decode cX11_take 46 = .ok (.ifCond .ne 10, 3) := by decide +kernel
theorem dX11_take_49 : decode cX11_take 49 = .ok (.aload_n 0, 1) := by decide +kernel
theorem dX11_take_50 : decode cX11_take 50 = .ok (.bipush (-13), 2) := by decide +kernel
theorem dX11_take_52 : decode cX11_take 52 = .ok (.invokevirtual 151, 3) := by decide +kernel
theorem dX11_take_55 : decode cX11_take 55 = .ok (.ireturn, 1) := by decide +kernel
theorem dX11_take_56 : decode cX11_take 56 = .ok (.iconst 0, 1) := by decide +kernel
theorem dX11_take_57 : decode cX11_take 57 = .ok (.istore 5, 2) := by decide +kernel
theorem dX11_take_59 : decode cX11_take 59 = .ok (.iload 5, 2) := by decide +kernel
theorem dX11_take_61 : decode cX11_take 61 = .ok (.aload_n 0, 1) := by decide +kernel
theorem dX11_take_62 : decode cX11_take 62 = .ok (.getfield 12, 3) := by decide +kernel
theorem dX11_take_65 : decode cX11_take 65 = .ok (.getfield 162, 3) := by decide +kernel
theorem dX11_take_68 : decode cX11_take 68 = .ok (.if_icmp .ge 30, 3) := by decide +kernel
theorem dX11_take_71 : decode cX11_take 71 = .ok (.aload_n 0, 1) := by decide +kernel
theorem dX11_take_72 : decode cX11_take 72 = .ok (.getfield 12, 3) := by decide +kernel
theorem dX11_take_75 : decode cX11_take 75 = .ok (.aload_n 3, 1) := by decide +kernel
theorem dX11_take_76 : decode cX11_take 76 = .ok (.iload_n 2, 1) := by decide +kernel
theorem dX11_take_77 : decode cX11_take 77 = .ok (.iload 5, 2) := by decide +kernel
theorem dX11_take_79 : decode cX11_take 79 = .ok (.iadd, 1) := by decide +kernel
theorem dX11_take_80 : decode cX11_take 80 = .ok (.invokevirtual 377, 3) := by decide +kernel
theorem dX11_take_83 : decode cX11_take 83 = .ok (.invokevirtual 155, 3) := by decide +kernel
theorem dX11_take_86 : decode cX11_take 86 = .ok (.ifCond .ne 6, 3) := by decide +kernel
theorem dX11_take_89 : decode cX11_take 89 = .ok (.bipush (-16), 2) := by decide +kernel
theorem dX11_take_91 : decode cX11_take 91 = .ok (.ireturn, 1) := by decide +kernel
theorem dX11_take_92 : decode cX11_take 92 = .ok (.iinc 5 1, 3) := by decide +kernel
theorem dX11_take_95 : decode cX11_take 95 = .ok (.goto (-36), 3) := by decide +kernel
theorem dX11_take_98 : decode cX11_take 98 = .ok (.iconst 0, 1) := by decide +kernel
theorem dX11_take_99 : decode cX11_take 99 = .ok (.istore 5, 2) := by decide +kernel
theorem dX11_take_101 : decode cX11_take 101 = .ok (.iload 5, 2) := by decide +kernel
theorem dX11_take_103 : decode cX11_take 103 = .ok (.aload_n 0, 1) := by decide +kernel
theorem dX11_take_104 : decode cX11_take 104 = .ok (.getfield 12, 3) := by decide +kernel
theorem dX11_take_107 : decode cX11_take 107 = .ok (.getfield 162, 3) := by decide +kernel
theorem dX11_take_110 : decode cX11_take 110 = .ok (.if_icmp .ge 27, 3) := by decide +kernel
theorem dX11_take_113 : decode cX11_take 113 = .ok (.aload_n 0, 1) := by decide +kernel
theorem dX11_take_114 : decode cX11_take 114 = .ok (.getfield 28, 3) := by decide +kernel
theorem dX11_take_117 : decode cX11_take 117 = .ok (.getfield 158, 3) := by decide +kernel
theorem dX11_take_120 : decode cX11_take 120 = .ok (.iload 5, 2) := by decide +kernel
theorem dX11_take_122 : decode cX11_take 122 = .ok (.aload_n 3, 1) := by decide +kernel
theorem dX11_take_123 : decode cX11_take 123 = .ok (.iload_n 2, 1) := by decide +kernel
theorem dX11_take_124 : decode cX11_take 124 = .ok (.iload 5, 2) := by decide +kernel
theorem dX11_take_126 : decode cX11_take 126 = .ok (.iadd, 1) := by decide +kernel
theorem dX11_take_127 : decode cX11_take 127 = .ok (.invokevirtual 377, 3) := by decide +kernel
theorem dX11_take_130 : decode cX11_take 130 = .ok (.iastore, 1) := by decide +kernel
theorem dX11_take_131 : decode cX11_take 131 = .ok (.iinc 5 1, 3) := by decide +kernel
theorem dX11_take_134 : decode cX11_take 134 = .ok (.goto (-33), 3) := by decide +kernel
theorem dX11_take_137 : decode cX11_take 137 = .ok (.aload_n 0, 1) := by decide +kernel
theorem dX11_take_138 : decode cX11_take 138 = .ok (.getfield 28, 3) := by decide +kernel
theorem dX11_take_141 : decode cX11_take 141 = .ok (.aload_n 0, 1) := by decide +kernel
theorem dX11_take_142 : decode cX11_take 142 = .ok (.getfield 12, 3) := by decide +kernel
theorem dX11_take_145 : decode cX11_take 145 = .ok (.getfield 162, 3) := by decide +kernel
theorem dX11_take_148 : decode cX11_take 148 = .ok (.aload_n 0, 1) := by decide +kernel
theorem dX11_take_149 : decode cX11_take 149 = .ok (.getfield 12, 3) := by decide +kernel
theorem dX11_take_152 : decode cX11_take 152 = .ok (.getfield 165, 3) := by decide +kernel
theorem dX11_take_155 : decode cX11_take 155 = .ok (.invokevirtual 107, 3) := by decide +kernel
theorem dX11_take_158 : decode cX11_take 158 = .ok (.aload_n 0, 1) := by decide +kernel
theorem dX11_take_159 : decode cX11_take 159 = .ok (.invokevirtual 171, 3) := by decide +kernel
theorem dX11_take_162 : decode cX11_take 162 = .ok (.ireturn, 1) := by decide +kernel
theorem dX11_kept_0 : decode cX11_kept 0 = .ok (.iload_n 1, 1) := by decide +kernel
theorem dX11_kept_1 : decode cX11_kept 1 = .ok (.invokestatic 331, 3) := by decide +kernel
theorem dX11_kept_4 : decode cX11_kept 4 = .ok (.ifCond .eq 13, 3) := by decide +kernel
theorem dX11_kept_7 : decode cX11_kept 7 = .ok (.iload_n 2, 1) := by decide +kernel
theorem dX11_kept_8 : decode cX11_kept 8 = .ok (.ifCond .lt 9, 3) := by decide +kernel
theorem dX11_kept_11 : decode cX11_kept 11 = .ok (.iload_n 2, 1) := by decide +kernel
theorem dX11_kept_12 : decode cX11_kept 12 = .ok (.bipush 8, 2) := by decide +kernel
theorem dX11_kept_14 : decode cX11_kept 14 = .ok (.if_icmp .le 5, 3) := by decide +kernel
theorem dX11_kept_17 : decode cX11_kept 17 = .ok (.iconst (-1), 1) := by decide +kernel
theorem dX11_kept_18 : decode cX11_kept 18 = .ok (.ireturn, 1) := by decide +kernel
theorem dX11_kept_19 : decode cX11_kept 19 = .ok (.aload_n 0, 1) := by decide +kernel
theorem dX11_kept_20 : decode cX11_kept 20 = .ok (.getfield 81, 3) := by decide +kernel
theorem dX11_kept_23 : decode cX11_kept 23 = .ok (.iload_n 1, 1) := by decide +kernel
theorem dX11_kept_24 : decode cX11_kept 24 = .ok (.aaload, 1) := by decide +kernel
theorem dX11_kept_25 : decode cX11_kept 25 = .ok (.astore_n 3, 1) := by decide +kernel
theorem dX11_kept_26 : decode cX11_kept 26 = .ok (.aload_n 3, 1) := by decide +kernel
theorem dX11_kept_27 : decode cX11_kept 27 = .ok (.invokevirtual 380, 3) := by decide +kernel
theorem dX11_kept_30 : decode cX11_kept 30 = .ok (.istore 4, 2) := by decide +kernel
theorem dX11_kept_32 : decode cX11_kept 32 = .ok (.iload 4, 2) := by decide +kernel
theorem dX11_kept_34 : decode cX11_kept 34 = .ok (.ifCond .eq 10, 3) := by decide +kernel
theorem dX11_kept_37 : decode cX11_kept 37 = .ok (.aload_n 0, 1) := by decide +kernel
theorem dX11_kept_38 : decode cX11_kept 38 = .ok (.iload 4, 2) := by decide +kernel
theorem dX11_kept_40 : decode cX11_kept 40 = .ok (.invokevirtual 151, 3) := by decide +kernel
theorem dX11_kept_43 : decode cX11_kept 43 = .ok (.ireturn, 1) := by decide +kernel
theorem dX11_kept_44 : decode cX11_kept 44 = .ok (.iload_n 2, 1) := by decide +kernel
theorem dX11_kept_45 : decode cX11_kept 45 = .ok (.tableswitch 51 0 3 #[31, 36, 41, 46], 31) := by decide +kernel
theorem dX11_kept_76 : decode cX11_kept 76 = .ok (.aload_n 3, 1) := by decide +kernel
theorem dX11_kept_77 : decode cX11_kept 77 = .ok (.getfield 383, 3) := by decide +kernel
theorem dX11_kept_80 : decode cX11_kept 80 = .ok (.ireturn, 1) := by decide +kernel
theorem dX11_kept_81 : decode cX11_kept 81 = .ok (.aload_n 3, 1) := by decide +kernel
theorem dX11_kept_82 : decode cX11_kept 82 = .ok (.invokevirtual 386, 3) := by decide +kernel
theorem dX11_kept_85 : decode cX11_kept 85 = .ok (.ireturn, 1) := by decide +kernel
theorem dX11_kept_86 : decode cX11_kept 86 = .ok (.aload_n 3, 1) := by decide +kernel
theorem dX11_kept_87 : decode cX11_kept 87 = .ok (.invokevirtual 389, 3) := by decide +kernel
theorem dX11_kept_90 : decode cX11_kept 90 = .ok (.ireturn, 1) := by decide +kernel
theorem dX11_kept_91 : decode cX11_kept 91 = .ok (.aload_n 3, 1) := by decide +kernel
theorem dX11_kept_92 : decode cX11_kept 92 = .ok (.getfield 392, 3) := by decide +kernel
theorem dX11_kept_95 : decode cX11_kept 95 = .ok (.ireturn, 1) := by decide +kernel
theorem dX11_kept_96 : decode cX11_kept 96 = .ok (.aload_n 3, 1) := by decide +kernel
theorem dX11_kept_97 : decode cX11_kept 97 = .ok (.iload_n 2, 1) := by decide +kernel
theorem dX11_kept_98 : decode cX11_kept 98 = .ok (.iconst 4, 1) := by decide +kernel
theorem dX11_kept_99 : decode cX11_kept 99 = .ok (.isub, 1) := by decide +kernel
theorem dX11_kept_100 : decode cX11_kept 100 = .ok (.iconst 1, 1) := by decide +kernel
theorem dX11_kept_101 : decode cX11_kept 101 = .ok (.invokevirtual 347, 3) := by decide +kernel
theorem dX11_kept_104 : decode cX11_kept 104 = .ok (.ifCond .eq 14, 3) := by decide +kernel
theorem dX11_kept_107 : decode cX11_kept 107 = .ok (.aload_n 3, 1) := by decide +kernel
theorem dX11_kept_108 : decode cX11_kept 108 = .ok (.getfield 351, 3) := by decide +kernel
theorem dX11_kept_111 : decode cX11_kept 111 = .ok (.iload_n 2, 1) := by decide +kernel
theorem dX11_kept_112 : decode cX11_kept 112 = .ok (.iconst 4, 1) := by decide +kernel
theorem dX11_kept_113 : decode cX11_kept 113 = .ok (.isub, 1) := by decide +kernel
theorem dX11_kept_114 : decode cX11_kept 114 = .ok (.iaload, 1) := by decide +kernel
theorem dX11_kept_115 : decode cX11_kept 115 = .ok (.goto 9, 3) := by decide +kernel
theorem dX11_kept_118 : decode cX11_kept 118 = .ok (.aload_n 0, 1) := by decide +kernel
theorem dX11_kept_119 : decode cX11_kept 119 = .ok (.bipush (-13), 2) := by decide +kernel
theorem dX11_kept_121 : decode cX11_kept 121 = .ok (.invokevirtual 151, 3) := by decide +kernel
theorem dX11_kept_124 : decode cX11_kept 124 = .ok (.ireturn, 1) := by decide +kernel
theorem dX11_toss_0 : decode cX11_toss 0 = .ok (.iload_n 1, 1) := by decide +kernel
theorem dX11_toss_1 : decode cX11_toss 1 = .ok (.invokestatic 331, 3) := by decide +kernel
theorem dX11_toss_4 : decode cX11_toss 4 = .ok (.ifCond .ne 5, 3) := by decide +kernel
theorem dX11_toss_7 : decode cX11_toss 7 = .ok (.iconst (-1), 1) := by decide +kernel
theorem dX11_toss_8 : decode cX11_toss 8 = .ok (.ireturn, 1) := by decide +kernel
theorem dX11_toss_9 : decode cX11_toss 9 = .ok (.aload_n 0, 1) := by decide +kernel
theorem dX11_toss_10 : decode cX11_toss 10 = .ok (.getfield 81, 3) := by decide +kernel
theorem dX11_toss_13 : decode cX11_toss 13 = .ok (.iload_n 1, 1) := by decide +kernel
theorem dX11_toss_14 : decode cX11_toss 14 = .ok (.aaload, 1) := by decide +kernel
theorem dX11_toss_15 : decode cX11_toss 15 = .ok (.astore_n 2, 1) := by decide +kernel
theorem dX11_toss_16 : decode cX11_toss 16 = .ok (.aload_n 2, 1) := by decide +kernel
theorem dX11_toss_17 : decode cX11_toss 17 = .ok (.invokevirtual 380, 3) := by decide +kernel
theorem dX11_toss_20 : decode cX11_toss 20 = .ok (.istore_n 3, 1) := by decide +kernel
theorem dX11_toss_21 : decode cX11_toss 21 = .ok (.iload_n 3, 1) := by decide +kernel
theorem dX11_toss_22 : decode cX11_toss 22 = .ok (.ifCond .eq 9, 3) := by decide +kernel
theorem dX11_toss_25 : decode cX11_toss 25 = .ok (.aload_n 0, 1) := by decide +kernel
theorem dX11_toss_26 : decode cX11_toss 26 = .ok (.iload_n 3, 1) := by decide +kernel
theorem dX11_toss_27 : decode cX11_toss 27 = .ok (.invokevirtual 151, 3) := by decide +kernel
theorem dX11_toss_30 : decode cX11_toss 30 = .ok (.ireturn, 1) := by decide +kernel
theorem dX11_toss_31 : decode cX11_toss 31 = .ok (.aload_n 2, 1) := by decide +kernel
theorem dX11_toss_32 : decode cX11_toss 32 = .ok (.invokevirtual 395, 3) := by decide +kernel
theorem dX11_toss_35 : decode cX11_toss 35 = .ok (.goto 12, 3) := by decide +kernel
theorem dX11_toss_38 : decode cX11_toss 38 = .ok (.astore 4, 2) := by decide +kernel
theorem dX11_toss_40 : decode cX11_toss 40 = .ok (.iconst 1, 1) := by decide +kernel
theorem dX11_toss_41 : decode cX11_toss 41 = .ok (.aload_n 2, 1) := by decide +kernel
theorem dX11_toss_42 : decode cX11_toss 42 = .ok (.getfield 383, 3) := by decide +kernel
theorem dX11_toss_45 : decode cX11_toss 45 = .ok (.iadd, 1) := by decide +kernel
theorem dX11_toss_46 : decode cX11_toss 46 = .ok (.ireturn, 1) := by decide +kernel
theorem dX11_toss_47 : decode cX11_toss 47 = .ok (.aload_n 0, 1) := by decide +kernel
theorem dX11_toss_48 : decode cX11_toss 48 = .ok (.bipush (-15), 2) := by decide +kernel
theorem dX11_toss_50 : decode cX11_toss 50 = .ok (.invokevirtual 151, 3) := by decide +kernel
theorem dX11_toss_53 : decode cX11_toss 53 = .ok (.ireturn, 1) := by decide +kernel
theorem dX11_isShelf_0 : decode cX11_isShelf 0 = .ok (.iload_n 0, 1) := by decide +kernel
theorem dX11_isShelf_1 : decode cX11_isShelf 1 = .ok (.ifCond .lt 13, 3) := by decide +kernel
theorem dX11_isShelf_4 : decode cX11_isShelf 4 = .ok (.iload_n 0, 1) := by decide +kernel
theorem dX11_isShelf_5 : decode cX11_isShelf 5 = .ok (.bipush 6, 2) := by decide +kernel
theorem dX11_isShelf_7 : decode cX11_isShelf 7 = .ok (.if_icmp .ge 7, 3) := by decide +kernel
theorem dX11_isShelf_10 : decode cX11_isShelf 10 = .ok (.iconst 1, 1) := by decide +kernel
theorem dX11_isShelf_11 : decode cX11_isShelf 11 = .ok (.goto 4, 3) := by decide +kernel
theorem dX11_isShelf_14 : decode cX11_isShelf 14 = .ok (.iconst 0, 1) := by decide +kernel
theorem dX11_isShelf_15 : decode cX11_isShelf 15 = .ok (.ireturn, 1) := by decide +kernel
theorem dX11_refused_0 : decode cX11_refused 0 = .ok (.aload_n 0, 1) := by decide +kernel
theorem dX11_refused_1 : decode cX11_refused 1 = .ok (.dup, 1) := by decide +kernel
theorem dX11_refused_2 : decode cX11_refused 2 = .ok (.getfield 116, 3) := by decide +kernel
theorem dX11_refused_5 : decode cX11_refused 5 = .ok (.iconst 1, 1) := by decide +kernel
theorem dX11_refused_6 : decode cX11_refused 6 = .ok (.iadd, 1) := by decide +kernel
theorem dX11_refused_7 : decode cX11_refused 7 = .ok (.putfield 116, 3) := by decide +kernel
theorem dX11_refused_10 : decode cX11_refused 10 = .ok (.iload_n 1, 1) := by decide +kernel
theorem dX11_refused_11 : decode cX11_refused 11 = .ok (.ireturn, 1) := by decide +kernel
theorem dX11_count_0 : decode cX11_count 0 = .ok (.iload_n 1, 1) := by decide +kernel
theorem dX11_count_1 : decode cX11_count 1 = .ok (.tableswitch 165 0 12 #[67, 75, 83, 91, 99, 107, 115, 120, 128, 136, 144, 152, 160], 67) := by decide +kernel
theorem dX11_count_68 : decode cX11_count 68 = .ok (.aload_n 0, 1) := by decide +kernel
theorem dX11_count_69 : decode cX11_count 69 = .ok (.getfield 12, 3) := by decide +kernel
theorem dX11_count_72 : decode cX11_count 72 = .ok (.getfield 162, 3) := by decide +kernel
theorem dX11_count_75 : decode cX11_count 75 = .ok (.ireturn, 1) := by decide +kernel
theorem dX11_count_76 : decode cX11_count 76 = .ok (.aload_n 0, 1) := by decide +kernel
theorem dX11_count_77 : decode cX11_count 77 = .ok (.getfield 12, 3) := by decide +kernel
theorem dX11_count_80 : decode cX11_count 80 = .ok (.getfield 165, 3) := by decide +kernel
theorem dX11_count_83 : decode cX11_count 83 = .ok (.ireturn, 1) := by decide +kernel
theorem dX11_count_84 : decode cX11_count 84 = .ok (.aload_n 0, 1) := by decide +kernel
theorem dX11_count_85 : decode cX11_count 85 = .ok (.getfield 12, 3) := by decide +kernel
theorem dX11_count_88 : decode cX11_count 88 = .ok (.getfield 94, 3) := by decide +kernel
theorem dX11_count_91 : decode cX11_count 91 = .ok (.ireturn, 1) := by decide +kernel
theorem dX11_count_92 : decode cX11_count 92 = .ok (.aload_n 0, 1) := by decide +kernel
theorem dX11_count_93 : decode cX11_count 93 = .ok (.getfield 21, 3) := by decide +kernel
theorem dX11_count_96 : decode cX11_count 96 = .ok (.getfield 125, 3) := by decide +kernel
theorem dX11_count_99 : decode cX11_count 99 = .ok (.ireturn, 1) := by decide +kernel
theorem dX11_count_100 : decode cX11_count 100 = .ok (.aload_n 0, 1) := by decide +kernel
theorem dX11_count_101 : decode cX11_count 101 = .ok (.getfield 21, 3) := by decide +kernel
theorem dX11_count_104 : decode cX11_count 104 = .ok (.getfield 182, 3) := by decide +kernel
theorem dX11_count_107 : decode cX11_count 107 = .ok (.ireturn, 1) := by decide +kernel
theorem dX11_count_108 : decode cX11_count 108 = .ok (.aload_n 0, 1) := by decide +kernel
theorem dX11_count_109 : decode cX11_count 109 = .ok (.getfield 21, 3) := by decide +kernel
theorem dX11_count_112 : decode cX11_count 112 = .ok (.getfield 119, 3) := by decide +kernel
theorem dX11_count_115 : decode cX11_count 115 = .ok (.ireturn, 1) := by decide +kernel
theorem dX11_count_116 : decode cX11_count 116 = .ok (.aload_n 0, 1) := by decide +kernel
theorem dX11_count_117 : decode cX11_count 117 = .ok (.invokevirtual 398, 3) := by decide +kernel
theorem dX11_count_120 : decode cX11_count 120 = .ok (.ireturn, 1) := by decide +kernel
theorem dX11_count_121 : decode cX11_count 121 = .ok (.aload_n 0, 1) := by decide +kernel
theorem dX11_count_122 : decode cX11_count 122 = .ok (.getfield 68, 3) := by decide +kernel
theorem dX11_count_125 : decode cX11_count 125 = .ok (.getfield 110, 3) := by decide +kernel
theorem dX11_count_128 : decode cX11_count 128 = .ok (.ireturn, 1) := by decide +kernel
theorem dX11_count_129 : decode cX11_count 129 = .ok (.aload_n 0, 1) := by decide +kernel
theorem dX11_count_130 : decode cX11_count 130 = .ok (.getfield 75, 3) := by decide +kernel
theorem dX11_count_133 : decode cX11_count 133 = .ok (.getfield 310, 3) := by decide +kernel
theorem dX11_count_136 : decode cX11_count 136 = .ok (.ireturn, 1) := by decide +kernel
theorem dX11_count_137 : decode cX11_count 137 = .ok (.aload_n 0, 1) := by decide +kernel
theorem dX11_count_138 : decode cX11_count 138 = .ok (.getfield 21, 3) := by decide +kernel
theorem dX11_count_141 : decode cX11_count 141 = .ok (.getfield 142, 3) := by decide +kernel
theorem dX11_count_144 : decode cX11_count 144 = .ok (.ireturn, 1) := by decide +kernel
theorem dX11_count_145 : decode cX11_count 145 = .ok (.aload_n 0, 1) := by decide +kernel
theorem dX11_count_146 : decode cX11_count 146 = .ok (.getfield 21, 3) := by decide +kernel
theorem dX11_count_149 : decode cX11_count 149 = .ok (.getfield 401, 3) := by decide +kernel
theorem dX11_count_152 : decode cX11_count 152 = .ok (.ireturn, 1) := by decide +kernel
theorem dX11_count_153 : decode cX11_count 153 = .ok (.aload_n 0, 1) := by decide +kernel
theorem dX11_count_154 : decode cX11_count 154 = .ok (.getfield 21, 3) := by decide +kernel
theorem dX11_count_157 : decode cX11_count 157 = .ok (.getfield 136, 3) := by decide +kernel
theorem dX11_count_160 : decode cX11_count 160 = .ok (.ireturn, 1) := by decide +kernel
theorem dX11_count_161 : decode cX11_count 161 = .ok (.aload_n 0, 1) := by decide +kernel
theorem dX11_count_162 : decode cX11_count 162 = .ok (.getfield 116, 3) := by decide +kernel
theorem dX11_count_165 : decode cX11_count 165 = .ok (.ireturn, 1) := by decide +kernel
theorem dX11_count_166 : decode cX11_count 166 = .ok (.iconst (-1), 1) := by decide +kernel
theorem dX11_count_167 : decode cX11_count 167 = .ok (.ireturn, 1) := by decide +kernel
theorem dX11_partsOfHand_0 : decode cX11_partsOfHand 0 = .ok (.aload_n 0, 1) := by decide +kernel
theorem dX11_partsOfHand_1 : decode cX11_partsOfHand 1 = .ok (.getfield 35, 3) := by decide +kernel
theorem dX11_partsOfHand_4 : decode cX11_partsOfHand 4 = .ok (.aload_n 0, 1) := by decide +kernel
theorem dX11_partsOfHand_5 : decode cX11_partsOfHand 5 = .ok (.getfield 21, 3) := by decide +kernel
theorem dX11_partsOfHand_8 : decode cX11_partsOfHand 8 = .ok (.aload_n 0, 1) := by decide +kernel
theorem dX11_partsOfHand_9 : decode cX11_partsOfHand 9 = .ok (.getfield 28, 3) := by decide +kernel
theorem dX11_partsOfHand_12 : decode cX11_partsOfHand 12 = .ok (.getfield 185, 3) := by decide +kernel
theorem dX11_partsOfHand_15 : decode cX11_partsOfHand 15 = .ok (.aload_n 0, 1) := by decide +kernel
theorem dX11_partsOfHand_16 : decode cX11_partsOfHand 16 = .ok (.getfield 28, 3) := by decide +kernel
theorem dX11_partsOfHand_19 : decode cX11_partsOfHand 19 = .ok (.getfield 188, 3) := by decide +kernel
theorem dX11_partsOfHand_22 : decode cX11_partsOfHand 22 = .ok (.invokevirtual 191, 3) := by decide +kernel
theorem dX11_partsOfHand_25 : decode cX11_partsOfHand 25 = .ok (.aload_n 0, 1) := by decide +kernel
theorem dX11_partsOfHand_26 : decode cX11_partsOfHand 26 = .ok (.getfield 35, 3) := by decide +kernel
theorem dX11_partsOfHand_29 : decode cX11_partsOfHand 29 = .ok (.getfield 195, 3) := by decide +kernel
theorem dX11_partsOfHand_32 : decode cX11_partsOfHand 32 = .ok (.ireturn, 1) := by decide +kernel
theorem dJ6_bitCount_0f7a4_0 : decode cJ6_bitCount_0f7a4 0 = .ok (.iload_n 0, 1) := by decide +kernel
theorem dJ6_bitCount_0f7a4_1 : decode cJ6_bitCount_0f7a4 1 = .ok (.iload_n 0, 1) := by decide +kernel
theorem dJ6_bitCount_0f7a4_2 : decode cJ6_bitCount_0f7a4 2 = .ok (.iconst 1, 1) := by decide +kernel
theorem dJ6_bitCount_0f7a4_3 : decode cJ6_bitCount_0f7a4 3 = .ok (.iushr, 1) := by decide +kernel
theorem dJ6_bitCount_0f7a4_4 : decode cJ6_bitCount_0f7a4 4 = .ok (.ldc_w 265, 3) := by decide +kernel
theorem dJ6_bitCount_0f7a4_7 : decode cJ6_bitCount_0f7a4 7 = .ok (.iand, 1) := by decide +kernel
theorem dJ6_bitCount_0f7a4_8 : decode cJ6_bitCount_0f7a4 8 = .ok (.isub, 1) := by decide +kernel
theorem dJ6_bitCount_0f7a4_9 : decode cJ6_bitCount_0f7a4 9 = .ok (.istore_n 0, 1) := by decide +kernel
theorem dJ6_bitCount_0f7a4_10 : decode cJ6_bitCount_0f7a4 10 = .ok (.iload_n 0, 1) := by decide +kernel
theorem dJ6_bitCount_0f7a4_11 : decode cJ6_bitCount_0f7a4 11 = .ok (.ldc_w 266, 3) := by decide +kernel
theorem dJ6_bitCount_0f7a4_14 : decode cJ6_bitCount_0f7a4 14 = .ok (.iand, 1) := by decide +kernel
theorem dJ6_bitCount_0f7a4_15 : decode cJ6_bitCount_0f7a4 15 = .ok (.iload_n 0, 1) := by decide +kernel
theorem dJ6_bitCount_0f7a4_16 : decode cJ6_bitCount_0f7a4 16 = .ok (.iconst 2, 1) := by decide +kernel
theorem dJ6_bitCount_0f7a4_17 : decode cJ6_bitCount_0f7a4 17 = .ok (.iushr, 1) := by decide +kernel
theorem dJ6_bitCount_0f7a4_18 : decode cJ6_bitCount_0f7a4 18 = .ok (.ldc_w 266, 3) := by decide +kernel
theorem dJ6_bitCount_0f7a4_21 : decode cJ6_bitCount_0f7a4 21 = .ok (.iand, 1) := by decide +kernel
theorem dJ6_bitCount_0f7a4_22 : decode cJ6_bitCount_0f7a4 22 = .ok (.iadd, 1) := by decide +kernel
theorem dJ6_bitCount_0f7a4_23 : decode cJ6_bitCount_0f7a4 23 = .ok (.istore_n 0, 1) := by decide +kernel
theorem dJ6_bitCount_0f7a4_24 : decode cJ6_bitCount_0f7a4 24 = .ok (.iload_n 0, 1) := by decide +kernel
theorem dJ6_bitCount_0f7a4_25 : decode cJ6_bitCount_0f7a4 25 = .ok (.iload_n 0, 1) := by decide +kernel
theorem dJ6_bitCount_0f7a4_26 : decode cJ6_bitCount_0f7a4 26 = .ok (.iconst 4, 1) := by decide +kernel
theorem dJ6_bitCount_0f7a4_27 : decode cJ6_bitCount_0f7a4 27 = .ok (.iushr, 1) := by decide +kernel
theorem dJ6_bitCount_0f7a4_28 : decode cJ6_bitCount_0f7a4 28 = .ok (.iadd, 1) := by decide +kernel
theorem dJ6_bitCount_0f7a4_29 : decode cJ6_bitCount_0f7a4 29 = .ok (.ldc_w 267, 3) := by decide +kernel
theorem dJ6_bitCount_0f7a4_32 : decode cJ6_bitCount_0f7a4 32 = .ok (.iand, 1) := by decide +kernel
theorem dJ6_bitCount_0f7a4_33 : decode cJ6_bitCount_0f7a4 33 = .ok (.istore_n 0, 1) := by decide +kernel
theorem dJ6_bitCount_0f7a4_34 : decode cJ6_bitCount_0f7a4 34 = .ok (.iload_n 0, 1) := by decide +kernel
theorem dJ6_bitCount_0f7a4_35 : decode cJ6_bitCount_0f7a4 35 = .ok (.iload_n 0, 1) := by decide +kernel
theorem dJ6_bitCount_0f7a4_36 : decode cJ6_bitCount_0f7a4 36 = .ok (.bipush 8, 2) := by decide +kernel
theorem dJ6_bitCount_0f7a4_38 : decode cJ6_bitCount_0f7a4 38 = .ok (.iushr, 1) := by decide +kernel
theorem dJ6_bitCount_0f7a4_39 : decode cJ6_bitCount_0f7a4 39 = .ok (.iadd, 1) := by decide +kernel
theorem dJ6_bitCount_0f7a4_40 : decode cJ6_bitCount_0f7a4 40 = .ok (.istore_n 0, 1) := by decide +kernel
theorem dJ6_bitCount_0f7a4_41 : decode cJ6_bitCount_0f7a4 41 = .ok (.iload_n 0, 1) := by decide +kernel
theorem dJ6_bitCount_0f7a4_42 : decode cJ6_bitCount_0f7a4 42 = .ok (.iload_n 0, 1) := by decide +kernel
theorem dJ6_bitCount_0f7a4_43 : decode cJ6_bitCount_0f7a4 43 = .ok (.bipush 16, 2) := by decide +kernel
theorem dJ6_bitCount_0f7a4_45 : decode cJ6_bitCount_0f7a4 45 = .ok (.iushr, 1) := by decide +kernel
theorem dJ6_bitCount_0f7a4_46 : decode cJ6_bitCount_0f7a4 46 = .ok (.iadd, 1) := by decide +kernel
theorem dJ6_bitCount_0f7a4_47 : decode cJ6_bitCount_0f7a4 47 = .ok (.istore_n 0, 1) := by decide +kernel
theorem dJ6_bitCount_0f7a4_48 : decode cJ6_bitCount_0f7a4 48 = .ok (.iload_n 0, 1) := by decide +kernel
theorem dJ6_bitCount_0f7a4_49 : decode cJ6_bitCount_0f7a4 49 = .ok (.bipush 63, 2) := by decide +kernel
theorem dJ6_bitCount_0f7a4_51 : decode cJ6_bitCount_0f7a4 51 = .ok (.iand, 1) := by decide +kernel
theorem dJ6_bitCount_0f7a4_52 : decode cJ6_bitCount_0f7a4 52 = .ok (.ireturn, 1) := by decide +kernel
theorem dJ9_max_7cf53_0 : decode cJ9_max_7cf53 0 = .ok (.iload_n 0, 1) := by decide +kernel
theorem dJ9_max_7cf53_1 : decode cJ9_max_7cf53 1 = .ok (.iload_n 1, 1) := by decide +kernel
theorem dJ9_max_7cf53_2 : decode cJ9_max_7cf53 2 = .ok (.if_icmp .lt 7, 3) := by decide +kernel
theorem dJ9_max_7cf53_5 : decode cJ9_max_7cf53 5 = .ok (.iload_n 0, 1) := by decide +kernel
theorem dJ9_max_7cf53_6 : decode cJ9_max_7cf53 6 = .ok (.goto 4, 3) := by decide +kernel
theorem dJ9_max_7cf53_9 : decode cJ9_max_7cf53 9 = .ok (.iload_n 1, 1) := by decide +kernel
theorem dJ9_max_7cf53_10 : decode cJ9_max_7cf53 10 = .ok (.ireturn, 1) := by decide +kernel
theorem dJ9_min_7cf53_0 : decode cJ9_min_7cf53 0 = .ok (.iload_n 0, 1) := by decide +kernel
theorem dJ9_min_7cf53_1 : decode cJ9_min_7cf53 1 = .ok (.iload_n 1, 1) := by decide +kernel
theorem dJ9_min_7cf53_2 : decode cJ9_min_7cf53 2 = .ok (.if_icmp .gt 7, 3) := by decide +kernel
theorem dJ9_min_7cf53_5 : decode cJ9_min_7cf53 5 = .ok (.iload_n 0, 1) := by decide +kernel
theorem dJ9_min_7cf53_6 : decode cJ9_min_7cf53 6 = .ok (.goto 4, 3) := by decide +kernel
theorem dJ9_min_7cf53_9 : decode cJ9_min_7cf53 9 = .ok (.iload_n 1, 1) := by decide +kernel
theorem dJ9_min_7cf53_10 : decode cJ9_min_7cf53 10 = .ok (.ireturn, 1) := by decide +kernel
theorem dJ7_fill_d0a16_0 : decode cJ7_fill_d0a16 0 = .ok (.iconst 0, 1) := by decide +kernel
theorem dJ7_fill_d0a16_1 : decode cJ7_fill_d0a16 1 = .ok (.istore_n 3, 1) := by decide +kernel
theorem dJ7_fill_d0a16_2 : decode cJ7_fill_d0a16 2 = .ok (.aload_n 0, 1) := by decide +kernel
theorem dJ7_fill_d0a16_3 : decode cJ7_fill_d0a16 3 = .ok (.arraylength, 1) := by decide +kernel
theorem dJ7_fill_d0a16_4 : decode cJ7_fill_d0a16 4 = .ok (.istore 4, 2) := by decide +kernel
theorem dJ7_fill_d0a16_6 : decode cJ7_fill_d0a16 6 = .ok (.iload_n 3, 1) := by decide +kernel
theorem dJ7_fill_d0a16_7 : decode cJ7_fill_d0a16 7 = .ok (.iload 4, 2) := by decide +kernel
theorem dJ7_fill_d0a16_9 : decode cJ7_fill_d0a16 9 = .ok (.if_icmp .ge 13, 3) := by decide +kernel
theorem dJ7_fill_d0a16_12 : decode cJ7_fill_d0a16 12 = .ok (.aload_n 0, 1) := by decide +kernel
theorem dJ7_fill_d0a16_13 : decode cJ7_fill_d0a16 13 = .ok (.iload_n 3, 1) := by decide +kernel
theorem dJ7_fill_d0a16_14 : decode cJ7_fill_d0a16 14 = .ok (.lload_n 1, 1) := by decide +kernel
theorem dJ7_fill_d0a16_15 : decode cJ7_fill_d0a16 15 = .ok (.lastore, 1) := by decide +kernel
theorem dJ7_fill_d0a16_16 : decode cJ7_fill_d0a16 16 = .ok (.iinc 3 1, 3) := by decide +kernel
theorem dJ7_fill_d0a16_19 : decode cJ7_fill_d0a16 19 = .ok (.goto (-13), 3) := by decide +kernel
theorem dJ7_fill_d0a16_22 : decode cJ7_fill_d0a16 22 = .ok (.return_, 1) := by decide +kernel
theorem dJ7_fill_53178_0 : decode cJ7_fill_53178 0 = .ok (.iconst 0, 1) := by decide +kernel
theorem dJ7_fill_53178_1 : decode cJ7_fill_53178 1 = .ok (.istore_n 2, 1) := by decide +kernel
theorem dJ7_fill_53178_2 : decode cJ7_fill_53178 2 = .ok (.aload_n 0, 1) := by decide +kernel
theorem dJ7_fill_53178_3 : decode cJ7_fill_53178 3 = .ok (.arraylength, 1) := by decide +kernel
theorem dJ7_fill_53178_4 : decode cJ7_fill_53178 4 = .ok (.istore_n 3, 1) := by decide +kernel
theorem dJ7_fill_53178_5 : decode cJ7_fill_53178 5 = .ok (.iload_n 2, 1) := by decide +kernel
theorem dJ7_fill_53178_6 : decode cJ7_fill_53178 6 = .ok (.iload_n 3, 1) := by decide +kernel
theorem dJ7_fill_53178_7 : decode cJ7_fill_53178 7 = .ok (.if_icmp .ge 13, 3) := by decide +kernel
theorem dJ7_fill_53178_10 : decode cJ7_fill_53178 10 = .ok (.aload_n 0, 1) := by decide +kernel
theorem dJ7_fill_53178_11 : decode cJ7_fill_53178 11 = .ok (.iload_n 2, 1) := by decide +kernel
theorem dJ7_fill_53178_12 : decode cJ7_fill_53178 12 = .ok (.iload_n 1, 1) := by decide +kernel
theorem dJ7_fill_53178_13 : decode cJ7_fill_53178 13 = .ok (.iastore, 1) := by decide +kernel
theorem dJ7_fill_53178_14 : decode cJ7_fill_53178 14 = .ok (.iinc 2 1, 3) := by decide +kernel
theorem dJ7_fill_53178_17 : decode cJ7_fill_53178 17 = .ok (.goto (-12), 3) := by decide +kernel
theorem dJ7_fill_53178_20 : decode cJ7_fill_53178 20 = .ok (.return_, 1) := by decide +kernel
end
section
theorem dX12_init_0 : decode cX12_init 0 = .ok (.aload_n 0, 1) := by decide +kernel
theorem dX12_init_1 : decode cX12_init 1 = .ok (.invokespecial 1, 3) := by decide +kernel
theorem dX12_init_4 : decode cX12_init 4 = .ok (.aload_n 0, 1) := by decide +kernel
theorem dX12_init_5 : decode cX12_init 5 = .ok (.iconst 3, 1) := by decide +kernel
theorem dX12_init_6 : decode cX12_init 6 = .ok (.putfield 7, 3) := by decide +kernel
theorem dX12_init_9 : decode cX12_init 9 = .ok (.aload_n 0, 1) := by decide +kernel
theorem dX12_init_10 : decode cX12_init 10 = .ok (.iconst 4, 1) := by decide +kernel
theorem dX12_init_11 : decode cX12_init 11 = .ok (.putfield 13, 3) := by decide +kernel
theorem dX12_init_14 : decode cX12_init 14 = .ok (.aload_n 0, 1) := by decide +kernel
theorem dX12_init_15 : decode cX12_init 15 = .ok (.bipush 64, 2) := by decide +kernel
theorem dX12_init_17 : decode cX12_init 17 = .ok (.putfield 16, 3) := by decide +kernel
theorem dX12_init_20 : decode cX12_init 20 = .ok (.aload_n 0, 1) := by decide +kernel
theorem dX12_init_21 : decode cX12_init 21 = .ok (.sipush 4096, 3) := by decide +kernel
theorem dX12_init_24 : decode cX12_init 24 = .ok (.newarray .boolean, 2) := by decide +kernel
theorem dX12_init_26 : decode cX12_init 26 = .ok (.putfield 19, 3) := by decide +kernel
theorem dX12_init_29 : decode cX12_init 29 = .ok (.aload_n 0, 1) := by decide +kernel
theorem dX12_init_30 : decode cX12_init 30 = .ok (.iconst 5, 1) := by decide +kernel
theorem dX12_init_31 : decode cX12_init 31 = .ok (.newarray .int, 2) := by decide +kernel
theorem dX12_init_33 : decode cX12_init 33 = .ok (.putfield 23, 3) := by decide +kernel
theorem dX12_init_36 : decode cX12_init 36 = .ok (.aload_n 0, 1) := by decide +kernel
theorem dX12_init_37 : decode cX12_init 37 = .ok (.bipush 55, 2) := by decide +kernel
theorem dX12_init_39 : decode cX12_init 39 = .ok (.newarray .int, 2) := by decide +kernel
theorem dX12_init_41 : decode cX12_init 41 = .ok (.putfield 27, 3) := by decide +kernel
theorem dX12_init_44 : decode cX12_init 44 = .ok (.aload_n 0, 1) := by decide +kernel
theorem dX12_init_45 : decode cX12_init 45 = .ok (.bipush 11, 2) := by decide +kernel
theorem dX12_init_47 : decode cX12_init 47 = .ok (.newarray .int, 2) := by decide +kernel
theorem dX12_init_49 : decode cX12_init 49 = .ok (.putfield 30, 3) := by decide +kernel
theorem dX12_init_52 : decode cX12_init 52 = .ok (.aload_n 0, 1) := by decide +kernel
theorem dX12_init_53 : decode cX12_init 53 = .ok (.bipush 10, 2) := by decide +kernel
theorem dX12_init_55 : decode cX12_init 55 = .ok (.newarray .int, 2) := by decide +kernel
theorem dX12_init_57 : decode cX12_init 57 = .ok (.putfield 33, 3) := by decide +kernel
theorem dX12_init_60 : decode cX12_init 60 = .ok (.aload_n 0, 1) := by decide +kernel
theorem dX12_init_61 : decode cX12_init 61 = .ok (.iconst (-1), 1) := by decide +kernel
theorem dX12_init_62 : decode cX12_init 62 = .ok (.putfield 36, 3) := by decide +kernel
theorem dX12_init_65 : decode cX12_init 65 = .ok (.aload_n 0, 1) := by decide +kernel
theorem dX12_init_66 : decode cX12_init 66 = .ok (.iconst 5, 1) := by decide +kernel
theorem dX12_init_67 : decode cX12_init 67 = .ok (.newarray .int, 2) := by decide +kernel
theorem dX12_init_69 : decode cX12_init 69 = .ok (.putfield 39, 3) := by decide +kernel
theorem dX12_init_72 : decode cX12_init 72 = .ok (.aload_n 0, 1) := by decide +kernel
theorem dX12_init_73 : decode cX12_init 73 = .ok (.sipush 4096, 3) := by decide +kernel
theorem dX12_init_76 : decode cX12_init 76 = .ok (.newarray .int, 2) := by decide +kernel
theorem dX12_init_78 : decode cX12_init 78 = .ok (.putfield 42, 3) := by decide +kernel
theorem dX12_init_81 : decode cX12_init 81 = .ok (.aload_n 0, 1) := by decide +kernel
theorem dX12_init_82 : decode cX12_init 82 = .ok (.sipush 4096, 3) := by decide +kernel
theorem dX12_init_85 : decode cX12_init 85 = .ok (.newarray .int, 2) := by decide +kernel
theorem dX12_init_87 : decode cX12_init 87 = .ok (.putfield 45, 3) := by decide +kernel
theorem dX12_init_90 : decode cX12_init 90 = .ok (.aload_n 0, 1) := by decide +kernel
theorem dX12_init_91 : decode cX12_init 91 = .ok (.bipush 60, 2) := by decide +kernel
theorem dX12_init_93 : decode cX12_init 93 = .ok (.newarray .int, 2) := by decide +kernel
theorem dX12_init_95 : decode cX12_init 95 = .ok (.putfield 48, 3) := by decide +kernel
theorem dX12_init_98 : decode cX12_init 98 = .ok (.aload_n 0, 1) := by decide +kernel
theorem dX12_init_99 : decode cX12_init 99 = .ok (.iconst 4, 1) := by decide +kernel
theorem dX12_init_100 : decode cX12_init 100 = .ok (.newarray .int, 2) := by decide +kernel
theorem dX12_init_102 : decode cX12_init 102 = .ok (.putfield 51, 3) := by decide +kernel
theorem dX12_init_105 : decode cX12_init 105 = .ok (.aload_n 0, 1) := by decide +kernel
theorem dX12_init_106 : decode cX12_init 106 = .ok (.iconst 5, 1) := by decide +kernel
theorem dX12_init_107 : decode cX12_init 107 = .ok (.newarray .int, 2) := by decide +kernel
theorem dX12_init_109 : decode cX12_init 109 = .ok (.putfield 54, 3) := by decide +kernel
theorem dX12_init_112 : decode cX12_init 112 = .ok (.aload_n 0, 1) := by decide +kernel
theorem dX12_init_113 : decode cX12_init 113 = .ok (.iconst 4, 1) := by decide +kernel
theorem dX12_init_114 : decode cX12_init 114 = .ok (.newarray .int, 2) := by decide +kernel
theorem dX12_init_116 : decode cX12_init 116 = .ok (.putfield 57, 3) := by decide +kernel
theorem dX12_init_119 : decode cX12_init 119 = .ok (.aload_n 0, 1) := by decide +kernel
theorem dX12_init_120 : decode cX12_init 120 = .ok (.sipush 4096, 3) := by decide +kernel
theorem dX12_init_123 : decode cX12_init 123 = .ok (.newarray .boolean, 2) := by decide +kernel
theorem dX12_init_125 : decode cX12_init 125 = .ok (.putfield 60, 3) := by decide +kernel
theorem dX12_init_128 : decode cX12_init 128 = .ok (.aload_n 0, 1) := by decide +kernel
theorem dX12_init_129 : decode cX12_init 129 = .ok (.sipush 1024, 3) := by decide +kernel
theorem dX12_init_132 : decode cX12_init 132 = .ok (.newarray .int, 2) := by decide +kernel
theorem dX12_init_134 : decode cX12_init 134 = .ok (.putfield 63, 3) := by decide +kernel
theorem dX12_init_137 : decode cX12_init 137 = .ok (.aload_n 0, 1) := by decide +kernel
theorem dX12_init_138 : decode cX12_init 138 = .ok (.sipush 1024, 3) := by decide +kernel
theorem dX12_init_141 : decode cX12_init 141 = .ok (.newarray .int, 2) := by decide +kernel
theorem dX12_init_143 : decode cX12_init 143 = .ok (.putfield 66, 3) := by decide +kernel
theorem dX12_init_146 : decode cX12_init 146 = .ok (.aload_n 0, 1) := by decide +kernel
theorem dX12_init_147 : decode cX12_init 147 = .ok (.sipush 11264, 3) := by decide +kernel
theorem dX12_init_150 : decode cX12_init 150 = .ok (.newarray .int, 2) := by decide +kernel
theorem dX12_init_152 : decode cX12_init 152 = .ok (.putfield 69, 3) := by decide +kernel
theorem dX12_init_155 : decode cX12_init 155 = .ok (.aload_n 0, 1) := by decide +kernel
theorem dX12_init_156 : decode cX12_init 156 = .ok (.sipush 11264, 3) := by decide +kernel
theorem dX12_init_159 : decode cX12_init 159 = .ok (.newarray .int, 2) := by decide +kernel
theorem dX12_init_161 : decode cX12_init 161 = .ok (.putfield 72, 3) := by decide +kernel
theorem dX12_init_164 : decode cX12_init 164 = .ok (.aload_n 0, 1) := by decide +kernel
theorem dX12_init_165 : decode cX12_init 165 = .ok (.ldc 75, 2) := by decide +kernel
theorem dX12_init_167 : decode cX12_init 167 = .ok (.newarray .int, 2) := by decide +kernel
theorem dX12_init_169 : decode cX12_init 169 = .ok (.putfield 76, 3) := by decide +kernel
theorem dX12_init_172 : decode cX12_init 172 = .ok (.aload_n 0, 1) := by decide +kernel
theorem dX12_init_173 : decode cX12_init 173 = .ok (.bipush 10, 2) := by decide +kernel
theorem dX12_init_175 : decode cX12_init 175 = .ok (.newarray .int, 2) := by decide +kernel
theorem dX12_init_177 : decode cX12_init 177 = .ok (.putfield 79, 3) := by decide +kernel
theorem dX12_init_180 : decode cX12_init 180 = .ok (.aload_n 0, 1) := by decide +kernel
theorem dX12_init_181 : decode cX12_init 181 = .ok (.bipush 10, 2) := by decide +kernel
theorem dX12_init_183 : decode cX12_init 183 = .ok (.newarray .int, 2) := by decide +kernel
theorem dX12_init_185 : decode cX12_init 185 = .ok (.putfield 82, 3) := by decide +kernel
theorem dX12_init_188 : decode cX12_init 188 = .ok (.aload_n 0, 1) := by decide +kernel
theorem dX12_init_189 : decode cX12_init 189 = .ok (.bipush 40, 2) := by decide +kernel
theorem dX12_init_191 : decode cX12_init 191 = .ok (.newarray .int, 2) := by decide +kernel
theorem dX12_init_193 : decode cX12_init 193 = .ok (.putfield 85, 3) := by decide +kernel
theorem dX12_init_196 : decode cX12_init 196 = .ok (.aload_n 0, 1) := by decide +kernel
theorem dX12_init_197 : decode cX12_init 197 = .ok (.bipush 40, 2) := by decide +kernel
theorem dX12_init_199 : decode cX12_init 199 = .ok (.newarray .int, 2) := by decide +kernel
theorem dX12_init_201 : decode cX12_init 201 = .ok (.putfield 88, 3) := by decide +kernel
theorem dX12_init_204 : decode cX12_init 204 = .ok (.aload_n 0, 1) := by decide +kernel
theorem dX12_init_205 : decode cX12_init 205 = .ok (.bipush 40, 2) := by decide +kernel
theorem dX12_init_207 : decode cX12_init 207 = .ok (.newarray .int, 2) := by decide +kernel
theorem dX12_init_209 : decode cX12_init 209 = .ok (.putfield 91, 3) := by decide +kernel
theorem dX12_init_212 : decode cX12_init 212 = .ok (.aload_n 0, 1) := by decide +kernel
theorem dX12_init_213 : decode cX12_init 213 = .ok (.bipush 40, 2) := by decide +kernel
theorem dX12_init_215 : decode cX12_init 215 = .ok (.newarray .int, 2) := by decide +kernel
theorem dX12_init_217 : decode cX12_init 217 = .ok (.putfield 94, 3) := by decide +kernel
theorem dX12_init_220 : decode cX12_init 220 = .ok (.aload_n 0, 1) := by decide +kernel
theorem dX12_init_221 : decode cX12_init 221 = .ok (.bipush 40, 2) := by decide +kernel
theorem dX12_init_223 : decode cX12_init 223 = .ok (.newarray .int, 2) := by decide +kernel
theorem dX12_init_225 : decode cX12_init 225 = .ok (.putfield 97, 3) := by decide +kernel
theorem dX12_init_228 : decode cX12_init 228 = .ok (.aload_n 0, 1) := by decide +kernel
theorem dX12_init_229 : decode cX12_init 229 = .ok (.sipush 600, 3) := by decide +kernel
theorem dX12_init_232 : decode cX12_init 232 = .ok (.newarray .int, 2) := by decide +kernel
theorem dX12_init_234 : decode cX12_init 234 = .ok (.putfield 100, 3) := by decide +kernel
theorem dX12_init_237 : decode cX12_init 237 = .ok (.aload_n 0, 1) := by decide +kernel
theorem dX12_init_238 : decode cX12_init 238 = .ok (.sipush 600, 3) := by decide +kernel
theorem dX12_init_241 : decode cX12_init 241 = .ok (.newarray .int, 2) := by decide +kernel
theorem dX12_init_243 : decode cX12_init 243 = .ok (.putfield 103, 3) := by decide +kernel
theorem dX12_init_246 : decode cX12_init 246 = .ok (.aload_n 0, 1) := by decide +kernel
theorem dX12_init_247 : decode cX12_init 247 = .ok (.sipush 600, 3) := by decide +kernel
theorem dX12_init_250 : decode cX12_init 250 = .ok (.newarray .int, 2) := by decide +kernel
theorem dX12_init_252 : decode cX12_init 252 = .ok (.putfield 106, 3) := by decide +kernel
theorem dX12_init_255 : decode cX12_init 255 = .ok (.aload_n 0, 1) := by decide +kernel
theorem dX12_init_256 : decode cX12_init 256 = .ok (.sipush 600, 3) := by decide +kernel
theorem dX12_init_259 : decode cX12_init 259 = .ok (.newarray .int, 2) := by decide +kernel
theorem dX12_init_261 : decode cX12_init 261 = .ok (.putfield 109, 3) := by decide +kernel
theorem dX12_init_264 : decode cX12_init 264 = .ok (.aload_n 0, 1) := by decide +kernel
theorem dX12_init_265 : decode cX12_init 265 = .ok (.bipush 40, 2) := by decide +kernel
theorem dX12_init_267 : decode cX12_init 267 = .ok (.newarray .int, 2) := by decide +kernel
theorem dX12_init_269 : decode cX12_init 269 = .ok (.putfield 112, 3) := by decide +kernel
theorem dX12_init_272 : decode cX12_init 272 = .ok (.aload_n 0, 1) := by decide +kernel
theorem dX12_init_273 : decode cX12_init 273 = .ok (.bipush 40, 2) := by decide +kernel
theorem dX12_init_275 : decode cX12_init 275 = .ok (.newarray .int, 2) := by decide +kernel
theorem dX12_init_277 : decode cX12_init 277 = .ok (.putfield 115, 3) := by decide +kernel
theorem dX12_init_280 : decode cX12_init 280 = .ok (.aload_n 0, 1) := by decide +kernel
theorem dX12_init_281 : decode cX12_init 281 = .ok (.bipush 40, 2) := by decide +kernel
theorem dX12_init_283 : decode cX12_init 283 = .ok (.newarray .int, 2) := by decide +kernel
theorem dX12_init_285 : decode cX12_init 285 = .ok (.putfield 118, 3) := by decide +kernel
theorem dX12_init_288 : decode cX12_init 288 = .ok (.aload_n 0, 1) := by decide +kernel
theorem dX12_init_289 : decode cX12_init 289 = .ok (.bipush 60, 2) := by decide +kernel
theorem dX12_init_291 : decode cX12_init 291 = .ok (.newarray .int, 2) := by decide +kernel
theorem dX12_init_293 : decode cX12_init 293 = .ok (.putfield 121, 3) := by decide +kernel
theorem dX12_init_296 : decode cX12_init 296 = .ok (.aload_n 0, 1) := by decide +kernel
theorem dX12_init_297 : decode cX12_init 297 = .ok (.bipush 6, 2) := by decide +kernel
theorem dX12_init_299 : decode cX12_init 299 = .ok (.newarray .int, 2) := by decide +kernel
theorem dX12_init_301 : decode cX12_init 301 = .ok (.putfield 124, 3) := by decide +kernel
theorem dX12_init_304 : decode cX12_init 304 = .ok (.aload_n 0, 1) := by decide +kernel
theorem dX12_init_305 : decode cX12_init 305 = .ok (.bipush 6, 2) := by decide +kernel
theorem dX12_init_307 : decode cX12_init 307 = .ok (.newarray .int, 2) := by decide +kernel
theorem dX12_init_309 : decode cX12_init 309 = .ok (.putfield 127, 3) := by decide +kernel
theorem dX12_init_312 : decode cX12_init 312 = .ok (.aload_n 0, 1) := by decide +kernel
theorem dX12_init_313 : decode cX12_init 313 = .ok (.sipush 360, 3) := by decide +kernel
theorem dX12_init_316 : decode cX12_init 316 = .ok (.newarray .int, 2) := by decide +kernel
theorem dX12_init_318 : decode cX12_init 318 = .ok (.putfield 130, 3) := by decide +kernel
theorem dX12_init_321 : decode cX12_init 321 = .ok (.aload_n 0, 1) := by decide +kernel
theorem dX12_init_322 : decode cX12_init 322 = .ok (.bipush 6, 2) := by decide +kernel
theorem dX12_init_324 : decode cX12_init 324 = .ok (.newarray .int, 2) := by decide +kernel
theorem dX12_init_326 : decode cX12_init 326 = .ok (.putfield 133, 3) := by decide +kernel
theorem dX12_init_329 : decode cX12_init 329 = .ok (.aload_n 0, 1) := by decide +kernel
theorem dX12_init_330 : decode cX12_init 330 = .ok (.bipush 60, 2) := by decide +kernel
theorem dX12_init_332 : decode cX12_init 332 = .ok (.newarray .int, 2) := by decide +kernel
theorem dX12_init_334 : decode cX12_init 334 = .ok (.putfield 136, 3) := by decide +kernel
theorem dX12_init_337 : decode cX12_init 337 = .ok (.iconst 0, 1) := by decide +kernel
theorem dX12_init_338 : decode cX12_init 338 = .ok (.istore_n 1, 1) := by decide +kernel
theorem dX12_init_339 : decode cX12_init 339 = .ok (.iload_n 1, 1) := by decide +kernel
theorem dX12_init_340 : decode cX12_init 340 = .ok (.iconst 5, 1) := by decide +kernel
theorem dX12_init_341 : decode cX12_init 341 = .ok (.if_icmp .ge 16, 3) := by decide +kernel
theorem dX12_init_344 : decode cX12_init 344 = .ok (.aload_n 0, 1) := by decide +kernel
theorem dX12_init_345 : decode cX12_init 345 = .ok (.getfield 23, 3) := by decide +kernel
theorem dX12_init_348 : decode cX12_init 348 = .ok (.iload_n 1, 1) := by decide +kernel
theorem dX12_init_349 : decode cX12_init 349 = .ok (.iconst (-1), 1) := by decide +kernel
theorem dX12_init_350 : decode cX12_init 350 = .ok (.iastore, 1) := by decide +kernel
theorem dX12_init_351 : decode cX12_init 351 = .ok (.iinc 1 1, 3) := by decide +kernel
theorem dX12_init_354 : decode cX12_init 354 = .ok (.goto (-15), 3) := by decide +kernel
theorem dX12_init_357 : decode cX12_init 357 = .ok (.return_, 1) := by decide +kernel
theorem dX12_thrown_0 : decode cX12_thrown 0 = .ok (.aload_n 0, 1) := by decide +kernel
theorem dX12_thrown_1 : decode cX12_thrown 1 = .ok (.getfield 139, 3) := by decide +kernel
theorem dX12_thrown_4 : decode cX12_thrown 4 = .ok (.ireturn, 1) := by decide +kernel
theorem dX12_in_0 : decode cX12_in 0 = .ok (.iload_n 0, 1) := by decide +kernel
theorem dX12_in_1 : decode cX12_in 1 = .ok (.iload_n 1, 1) := by decide +kernel
theorem dX12_in_2 : decode cX12_in 2 = .ok (.if_icmp .lt 12, 3) := by decide +kernel
theorem dX12_in_5 : decode cX12_in 5 = .ok (.iload_n 0, 1) := by decide +kernel
theorem dX12_in_6 : decode cX12_in 6 = .ok (.iload_n 2, 1) := by decide +kernel
theorem dX12_in_7 : decode cX12_in 7 = .ok (.if_icmp .gt 7, 3) := by decide +kernel
theorem dX12_in_10 : decode cX12_in 10 = .ok (.iconst 1, 1) := by decide +kernel
theorem dX12_in_11 : decode cX12_in 11 = .ok (.goto 4, 3) := by decide +kernel
theorem dX12_in_14 : decode cX12_in 14 = .ok (.iconst 0, 1) := by decide +kernel
theorem dX12_in_15 : decode cX12_in 15 = .ok (.ireturn, 1) := by decide +kernel
theorem dX12_isCode_0 : decode cX12_isCode 0 = .ok (.iload_n 1, 1) := by decide +kernel
theorem dX12_isCode_1 : decode cX12_isCode 1 = .ok (.iconst 0, 1) := by decide +kernel
theorem dX12_isCode_2 : decode cX12_isCode 2 = .ok (.aload_n 0, 1) := by decide +kernel
theorem dX12_isCode_3 : decode cX12_isCode 3 = .ok (.getfield 16, 3) := by decide +kernel
theorem dX12_isCode_6 : decode cX12_isCode 6 = .ok (.iconst 1, 1) := by decide +kernel
theorem dX12_isCode_7 : decode cX12_isCode 7 = .ok (.isub, 1) := by decide +kernel
theorem dX12_isCode_8 : decode cX12_isCode 8 = .ok (.invokestatic 142, 3) := by decide +kernel
theorem dX12_isCode_11 : decode cX12_isCode 11 = .ok (.ireturn, 1) := by decide +kernel
theorem dX12_peg0_0 : decode cX12_peg0 0 = .ok (.iload_n 1, 1) := by decide +kernel
theorem dX12_peg0_1 : decode cX12_peg0 1 = .ok (.istore_n 3, 1) := by decide +kernel
theorem dX12_peg0_2 : decode cX12_peg0 2 = .ok (.aload_n 0, 1) := by decide +kernel
theorem dX12_peg0_3 : decode cX12_peg0 3 = .ok (.getfield 7, 3) := by decide +kernel
theorem dX12_peg0_6 : decode cX12_peg0 6 = .ok (.iconst 1, 1) := by decide +kernel
theorem dX12_peg0_7 : decode cX12_peg0 7 = .ok (.isub, 1) := by decide +kernel
theorem dX12_peg0_8 : decode cX12_peg0 8 = .ok (.istore 4, 2) := by decide +kernel
theorem dX12_peg0_10 : decode cX12_peg0 10 = .ok (.iload 4, 2) := by decide +kernel
theorem dX12_peg0_12 : decode cX12_peg0 12 = .ok (.iload_n 2, 1) := by decide +kernel
theorem dX12_peg0_13 : decode cX12_peg0 13 = .ok (.if_icmp .le 16, 3) := by decide +kernel
theorem dX12_peg0_16 : decode cX12_peg0 16 = .ok (.iload_n 3, 1) := by decide +kernel
theorem dX12_peg0_17 : decode cX12_peg0 17 = .ok (.aload_n 0, 1) := by decide +kernel
theorem dX12_peg0_18 : decode cX12_peg0 18 = .ok (.getfield 13, 3) := by decide +kernel
theorem dX12_peg0_21 : decode cX12_peg0 21 = .ok (.idiv, 1) := by decide +kernel
theorem dX12_peg0_22 : decode cX12_peg0 22 = .ok (.istore_n 3, 1) := by decide +kernel
theorem dX12_peg0_23 : decode cX12_peg0 23 = .ok (.iinc 4 (-1), 3) := by decide +kernel
theorem dX12_peg0_26 : decode cX12_peg0 26 = .ok (.goto (-16), 3) := by decide +kernel
theorem dX12_peg0_29 : decode cX12_peg0 29 = .ok (.iload_n 3, 1) := by decide +kernel
theorem dX12_peg0_30 : decode cX12_peg0 30 = .ok (.aload_n 0, 1) := by decide +kernel
theorem dX12_peg0_31 : decode cX12_peg0 31 = .ok (.getfield 13, 3) := by decide +kernel
theorem dX12_peg0_34 : decode cX12_peg0 34 = .ok (.irem, 1) := by decide +kernel
theorem dX12_peg0_35 : decode cX12_peg0 35 = .ok (.ireturn, 1) := by decide +kernel
theorem dX12_guessCode_0 : decode cX12_guessCode 0 = .ok (.iconst 0, 1) := by decide +kernel
theorem dX12_guessCode_1 : decode cX12_guessCode 1 = .ok (.istore_n 2, 1) := by decide +kernel
theorem dX12_guessCode_2 : decode cX12_guessCode 2 = .ok (.iload_n 2, 1) := by decide +kernel
theorem dX12_guessCode_3 : decode cX12_guessCode 3 = .ok (.aload_n 0, 1) := by decide +kernel
theorem dX12_guessCode_4 : decode cX12_guessCode 4 = .ok (.getfield 7, 3) := by decide +kernel
theorem dX12_guessCode_7 : decode cX12_guessCode 7 = .ok (.if_icmp .ge 21, 3) := by decide +kernel
theorem dX12_guessCode_10 : decode cX12_guessCode 10 = .ok (.aload_n 0, 1) := by decide +kernel
theorem dX12_guessCode_11 : decode cX12_guessCode 11 = .ok (.getfield 39, 3) := by decide +kernel
theorem dX12_guessCode_14 : decode cX12_guessCode 14 = .ok (.iload_n 2, 1) := by decide +kernel
theorem dX12_guessCode_15 : decode cX12_guessCode 15 = .ok (.aload_n 0, 1) := by decide +kernel
theorem dX12_guessCode_16 : decode cX12_guessCode 16 = .ok (.iload_n 1, 1) := by decide +kernel
theorem dX12_guessCode_17 : decode cX12_guessCode 17 = .ok (.iload_n 2, 1) := by decide +kernel
theorem dX12_guessCode_18 : decode cX12_guessCode 18 = .ok (.invokevirtual 146, 3) := by decide +kernel
theorem dX12_guessCode_21 : decode cX12_guessCode 21 = .ok (.iastore, 1) := by decide +kernel
theorem dX12_guessCode_22 : decode cX12_guessCode 22 = .ok (.iinc 2 1, 3) := by decide +kernel
theorem dX12_guessCode_25 : decode cX12_guessCode 25 = .ok (.goto (-23), 3) := by decide +kernel
theorem dX12_guessCode_28 : decode cX12_guessCode 28 = .ok (.return_, 1) := by decide +kernel
theorem dX12_guessHand_0 : decode cX12_guessHand 0 = .ok (.iconst 0, 1) := by decide +kernel
theorem dX12_guessHand_1 : decode cX12_guessHand 1 = .ok (.istore_n 1, 1) := by decide +kernel
theorem dX12_guessHand_2 : decode cX12_guessHand 2 = .ok (.iload_n 1, 1) := by decide +kernel
theorem dX12_guessHand_3 : decode cX12_guessHand 3 = .ok (.aload_n 0, 1) := by decide +kernel
theorem dX12_guessHand_4 : decode cX12_guessHand 4 = .ok (.getfield 7, 3) := by decide +kernel
theorem dX12_guessHand_7 : decode cX12_guessHand 7 = .ok (.if_icmp .ge 21, 3) := by decide +kernel
theorem dX12_guessHand_10 : decode cX12_guessHand 10 = .ok (.aload_n 0, 1) := by decide +kernel
theorem dX12_guessHand_11 : decode cX12_guessHand 11 = .ok (.getfield 39, 3) := by decide +kernel
theorem dX12_guessHand_14 : decode cX12_guessHand 14 = .ok (.iload_n 1, 1) := by decide +kernel
theorem dX12_guessHand_15 : decode cX12_guessHand 15 = .ok (.aload_n 0, 1) := by decide +kernel
theorem dX12_guessHand_16 : decode cX12_guessHand 16 = .ok (.getfield 23, 3) := by decide +kernel
theorem dX12_guessHand_19 : decode cX12_guessHand 19 = .ok (.iload_n 1, 1) := by decide +kernel
theorem dX12_guessHand_20 : decode cX12_guessHand 20 = .ok (.iaload, 1) := by decide +kernel
theorem dX12_guessHand_21 : decode cX12_guessHand 21 = .ok (.iastore, 1) := by decide +kernel
theorem dX12_guessHand_22 : decode cX12_guessHand 22 = .ok (.iinc 1 1, 3) := by decide +kernel
theorem dX12_guessHand_25 : decode cX12_guessHand 25 = .ok (.goto (-23), 3) := by decide +kernel
theorem dX12_guessHand_28 : decode cX12_guessHand 28 = .ok (.return_, 1) := by decide +kernel
theorem dX12_guessTurn_0 : decode cX12_guessTurn 0 = .ok (.iconst 0, 1) := by decide +kernel
theorem dX12_guessTurn_1 : decode cX12_guessTurn 1 = .ok (.istore_n 2, 1) := by decide +kernel
theorem dX12_guessTurn_2 : decode cX12_guessTurn 2 = .ok (.iload_n 2, 1) := by decide +kernel
theorem dX12_guessTurn_3 : decode cX12_guessTurn 3 = .ok (.aload_n 0, 1) := by decide +kernel
theorem dX12_guessTurn_4 : decode cX12_guessTurn 4 = .ok (.getfield 7, 3) := by decide +kernel
theorem dX12_guessTurn_7 : decode cX12_guessTurn 7 = .ok (.if_icmp .ge 25, 3) := by decide +kernel
theorem dX12_guessTurn_10 : decode cX12_guessTurn 10 = .ok (.aload_n 0, 1) := by decide +kernel
theorem dX12_guessTurn_11 : decode cX12_guessTurn 11 = .ok (.getfield 39, 3) := by decide +kernel
theorem dX12_guessTurn_14 : decode cX12_guessTurn 14 = .ok (.iload_n 2, 1) := by decide +kernel
theorem dX12_guessTurn_15 : decode cX12_guessTurn 15 = .ok (.aload_n 0, 1) := by decide +kernel
theorem dX12_guessTurn_16 : decode cX12_guessTurn 16 = .ok (.getfield 27, 3) := by decide +kernel
theorem dX12_guessTurn_19 : decode cX12_guessTurn 19 = .ok (.iconst 5, 1) := by decide +kernel
theorem dX12_guessTurn_20 : decode cX12_guessTurn 20 = .ok (.iload_n 1, 1) := by decide +kernel
theorem dX12_guessTurn_21 : decode cX12_guessTurn 21 = .ok (.imul, 1) := by decide +kernel
theorem dX12_guessTurn_22 : decode cX12_guessTurn 22 = .ok (.iload_n 2, 1) := by decide +kernel
theorem dX12_guessTurn_23 : decode cX12_guessTurn 23 = .ok (.iadd, 1) := by decide +kernel
theorem dX12_guessTurn_24 : decode cX12_guessTurn 24 = .ok (.iaload, 1) := by decide +kernel
theorem dX12_guessTurn_25 : decode cX12_guessTurn 25 = .ok (.iastore, 1) := by decide +kernel
theorem dX12_guessTurn_26 : decode cX12_guessTurn 26 = .ok (.iinc 2 1, 3) := by decide +kernel
theorem dX12_guessTurn_29 : decode cX12_guessTurn 29 = .ok (.goto (-27), 3) := by decide +kernel
theorem dX12_guessTurn_32 : decode cX12_guessTurn 32 = .ok (.return_, 1) := by decide +kernel
theorem dX12_answers_0 : decode cX12_answers 0 = .ok (.iconst 0, 1) := by decide +kernel
theorem dX12_answers_1 : decode cX12_answers 1 = .ok (.istore_n 2, 1) := by decide +kernel
theorem dX12_answers_2 : decode cX12_answers 2 = .ok (.iconst 0, 1) := by decide +kernel
theorem dX12_answers_3 : decode cX12_answers 3 = .ok (.istore_n 3, 1) := by decide +kernel
theorem dX12_answers_4 : decode cX12_answers 4 = .ok (.iconst 0, 1) := by decide +kernel
theorem dX12_answers_5 : decode cX12_answers 5 = .ok (.istore 4, 2) := by decide +kernel
theorem dX12_answers_7 : decode cX12_answers 7 = .ok (.iload 4, 2) := by decide +kernel
theorem dX12_answers_9 : decode cX12_answers 9 = .ok (.aload_n 0, 1) := by decide +kernel
theorem dX12_answers_10 : decode cX12_answers 10 = .ok (.getfield 7, 3) := by decide +kernel
theorem dX12_answers_13 : decode cX12_answers 13 = .ok (.if_icmp .ge 34, 3) := by decide +kernel
theorem dX12_answers_16 : decode cX12_answers 16 = .ok (.iload_n 2, 1) := by decide +kernel
theorem dX12_answers_17 : decode cX12_answers 17 = .ok (.aload_n 0, 1) := by decide +kernel
theorem dX12_answers_18 : decode cX12_answers 18 = .ok (.getfield 39, 3) := by decide +kernel
theorem dX12_answers_21 : decode cX12_answers 21 = .ok (.iload 4, 2) := by decide +kernel
theorem dX12_answers_23 : decode cX12_answers 23 = .ok (.iaload, 1) := by decide +kernel
theorem dX12_answers_24 : decode cX12_answers 24 = .ok (.aload_n 0, 1) := by decide +kernel
theorem dX12_answers_25 : decode cX12_answers 25 = .ok (.iload_n 1, 1) := by decide +kernel
theorem dX12_answers_26 : decode cX12_answers 26 = .ok (.iload 4, 2) := by decide +kernel
theorem dX12_answers_28 : decode cX12_answers 28 = .ok (.invokevirtual 146, 3) := by decide +kernel
theorem dX12_answers_31 : decode cX12_answers 31 = .ok (.if_icmp .ne 7, 3) := by decide +kernel
theorem dX12_answers_34 : decode cX12_answers 34 = .ok (.iconst 1, 1) := by decide +kernel
theorem dX12_answers_35 : decode cX12_answers 35 = .ok (.goto 4, 3) := by decide +kernel
theorem dX12_answers_38 : decode cX12_answers 38 = .ok (.iconst 0, 1) := by decide +kernel
theorem dX12_answers_39 : decode cX12_answers 39 = .ok (.iadd, 1) := by decide +kernel
theorem dX12_answers_40 : decode cX12_answers 40 = .ok (.istore_n 2, 1) := by decide +kernel
theorem dX12_answers_41 : decode cX12_answers 41 = .ok (.iinc 4 1, 3) := by decide +kernel
theorem dX12_answers_44 : decode cX12_answers 44 = .ok (.goto (-37), 3) := by decide +kernel
theorem dX12_answers_47 : decode cX12_answers 47 = .ok (.iconst 0, 1) := by decide +kernel
theorem dX12_answers_48 : decode cX12_answers 48 = .ok (.istore 4, 2) := by decide +kernel
theorem dX12_answers_50 : decode cX12_answers 50 = .ok (.iload 4, 2) := by decide +kernel
theorem dX12_answers_52 : decode cX12_answers 52 = .ok (.aload_n 0, 1) := by decide +kernel
theorem dX12_answers_53 : decode cX12_answers 53 = .ok (.getfield 13, 3) := by decide +kernel
theorem dX12_answers_56 : decode cX12_answers 56 = .ok (.if_icmp .ge 94, 3) := by decide +kernel
theorem dX12_answers_59 : decode cX12_answers 59 = .ok (.iconst 0, 1) := by decide +kernel
theorem dX12_answers_60 : decode cX12_answers 60 = .ok (.istore 5, 2) := by decide +kernel
theorem dX12_answers_62 : decode cX12_answers 62 = .ok (.iconst 0, 1) := by decide +kernel
theorem dX12_answers_63 : decode cX12_answers 63 = .ok (.istore 6, 2) := by decide +kernel
theorem dX12_answers_65 : decode cX12_answers 65 = .ok (.iconst 0, 1) := by decide +kernel
theorem dX12_answers_66 : decode cX12_answers 66 = .ok (.istore 7, 2) := by decide +kernel
theorem dX12_answers_68 : decode cX12_answers 68 = .ok (.iload 7, 2) := by decide +kernel
theorem dX12_answers_70 : decode cX12_answers 70 = .ok (.aload_n 0, 1) := by decide +kernel
theorem dX12_answers_71 : decode cX12_answers 71 = .ok (.getfield 7, 3) := by decide +kernel
theorem dX12_answers_74 : decode cX12_answers 74 = .ok (.if_icmp .ge 53, 3) := by decide +kernel
theorem dX12_answers_77 : decode cX12_answers 77 = .ok (.iload 5, 2) := by decide +kernel
theorem dX12_answers_79 : decode cX12_answers 79 = .ok (.aload_n 0, 1) := by decide +kernel
theorem dX12_answers_80 : decode cX12_answers 80 = .ok (.getfield 39, 3) := by decide +kernel
theorem dX12_answers_83 : decode cX12_answers 83 = .ok (.iload 7, 2) := by decide +kernel
theorem dX12_answers_85 : decode cX12_answers 85 = .ok (.iaload, 1) := by decide +kernel
theorem dX12_answers_86 : decode cX12_answers 86 = .ok (.iload 4, 2) := by decide +kernel
theorem dX12_answers_88 : decode cX12_answers 88 = .ok (.if_icmp .ne 7, 3) := by decide +kernel
theorem dX12_answers_91 : decode cX12_answers 91 = .ok (.iconst 1, 1) := by decide +kernel
theorem dX12_answers_92 : decode cX12_answers 92 = .ok (.goto 4, 3) := by decide +kernel
theorem dX12_answers_95 : decode cX12_answers 95 = .ok (.iconst 0, 1) := by decide +kernel
theorem dX12_answers_96 : decode cX12_answers 96 = .ok (.iadd, 1) := by decide +kernel
theorem dX12_answers_97 : decode cX12_answers 97 = .ok (.istore 5, 2) := by decide +kernel
theorem dX12_answers_99 : decode cX12_answers 99 = .ok (.iload 6, 2) := by decide +kernel
theorem dX12_answers_101 : decode cX12_answers 101 = .ok (.aload_n 0, 1) := by decide +kernel
theorem dX12_answers_102 : decode cX12_answers 102 = .ok (.iload_n 1, 1) := by decide +kernel
theorem dX12_answers_103 : decode cX12_answers 103 = .ok (.iload 7, 2) := by decide +kernel
theorem dX12_answers_105 : decode cX12_answers 105 = .ok (.invokevirtual 146, 3) := by decide +kernel
theorem dX12_answers_108 : decode cX12_answers 108 = .ok (.iload 4, 2) := by decide +kernel
theorem dX12_answers_110 : decode cX12_answers 110 = .ok (.if_icmp .ne 7, 3) := by decide +kernel
theorem dX12_answers_113 : decode cX12_answers 113 = .ok (.iconst 1, 1) := by decide +kernel
theorem dX12_answers_114 : decode cX12_answers 114 = .ok (.goto 4, 3) := by decide +kernel
theorem dX12_answers_117 : decode cX12_answers 117 = .ok (.iconst 0, 1) := by decide +kernel
theorem dX12_answers_118 : decode cX12_answers 118 = .ok (.iadd, 1) := by decide +kernel
theorem dX12_answers_119 : decode cX12_answers 119 = .ok (.istore 6, 2) := by decide +kernel
theorem dX12_answers_121 : decode cX12_answers 121 = .ok (.iinc 7 1, 3) := by decide +kernel
theorem dX12_answers_124 : decode cX12_answers 124 = .ok (.goto (-56), 3) := by decide +kernel
theorem dX12_answers_127 : decode cX12_answers 127 = .ok (.iload_n 3, 1) := by decide +kernel
theorem dX12_answers_128 : decode cX12_answers 128 = .ok (.iload 5, 2) := by decide +kernel
theorem dX12_answers_130 : decode cX12_answers 130 = .ok (.iload 6, 2) := by decide +kernel
theorem dX12_answers_132 : decode cX12_answers 132 = .ok (.if_icmp .ge 8, 3) := by decide +kernel
theorem dX12_answers_135 : decode cX12_answers 135 = .ok (.iload 5, 2) := by decide +kernel
theorem dX12_answers_137 : decode cX12_answers 137 = .ok (.goto 5, 3) := by decide +kernel
theorem dX12_answers_140 : decode cX12_answers 140 = .ok (.iload 6, 2) := by decide +kernel
theorem dX12_answers_142 : decode cX12_answers 142 = .ok (.iadd, 1) := by decide +kernel
theorem dX12_answers_143 : decode cX12_answers 143 = .ok (.istore_n 3, 1) := by decide +kernel
theorem dX12_answers_144 : decode cX12_answers 144 = .ok (.iinc 4 1, 3) := by decide +kernel
theorem dX12_answers_147 : decode cX12_answers 147 = .ok (.goto (-97), 3) := by decide +kernel
theorem dX12_answers_150 : decode cX12_answers 150 = .ok (.bipush 10, 2) := by decide +kernel
theorem dX12_answers_152 : decode cX12_answers 152 = .ok (.iload_n 2, 1) := by decide +kernel
theorem dX12_answers_153 : decode cX12_answers 153 = .ok (.imul, 1) := by decide +kernel
theorem dX12_answers_154 : decode cX12_answers 154 = .ok (.iload_n 3, 1) := by decide +kernel
theorem dX12_answers_155 : decode cX12_answers 155 = .ok (.iadd, 1) := by decide +kernel
theorem dX12_answers_156 : decode cX12_answers 156 = .ok (.iload_n 2, 1) := by decide +kernel
theorem dX12_answers_157 : decode cX12_answers 157 = .ok (.isub, 1) := by decide +kernel
theorem dX12_answers_158 : decode cX12_answers 158 = .ok (.ireturn, 1) := by decide +kernel
theorem dX12_mayAnswer_0 : decode cX12_mayAnswer 0 = .ok (.iload_n 1, 1) := by decide +kernel
theorem dX12_mayAnswer_1 : decode cX12_mayAnswer 1 = .ok (.ifCond .lt 23, 3) := by decide +kernel
theorem dX12_mayAnswer_4 : decode cX12_mayAnswer 4 = .ok (.iload_n 1, 1) := by decide +kernel
theorem dX12_mayAnswer_5 : decode cX12_mayAnswer 5 = .ok (.bipush 10, 2) := by decide +kernel
theorem dX12_mayAnswer_7 : decode cX12_mayAnswer 7 = .ok (.idiv, 1) := by decide +kernel
theorem dX12_mayAnswer_8 : decode cX12_mayAnswer 8 = .ok (.iload_n 1, 1) := by decide +kernel
theorem dX12_mayAnswer_9 : decode cX12_mayAnswer 9 = .ok (.bipush 10, 2) := by decide +kernel
theorem dX12_mayAnswer_11 : decode cX12_mayAnswer 11 = .ok (.irem, 1) := by decide +kernel
theorem dX12_mayAnswer_12 : decode cX12_mayAnswer 12 = .ok (.iadd, 1) := by decide +kernel
theorem dX12_mayAnswer_13 : decode cX12_mayAnswer 13 = .ok (.aload_n 0, 1) := by decide +kernel
theorem dX12_mayAnswer_14 : decode cX12_mayAnswer 14 = .ok (.getfield 7, 3) := by decide +kernel
theorem dX12_mayAnswer_17 : decode cX12_mayAnswer 17 = .ok (.if_icmp .gt 7, 3) := by decide +kernel
theorem dX12_mayAnswer_20 : decode cX12_mayAnswer 20 = .ok (.iconst 1, 1) := by decide +kernel
theorem dX12_mayAnswer_21 : decode cX12_mayAnswer 21 = .ok (.goto 4, 3) := by decide +kernel
theorem dX12_mayAnswer_24 : decode cX12_mayAnswer 24 = .ok (.iconst 0, 1) := by decide +kernel
theorem dX12_mayAnswer_25 : decode cX12_mayAnswer 25 = .ok (.ireturn, 1) := by decide +kernel
theorem dX12_isAllowed_0 : decode cX12_isAllowed 0 = .ok (.aload_n 0, 1) := by decide +kernel
theorem dX12_isAllowed_1 : decode cX12_isAllowed 1 = .ok (.getfield 150, 3) := by decide +kernel
theorem dX12_isAllowed_4 : decode cX12_isAllowed 4 = .ok (.ifCond .ne 5, 3) := by decide +kernel
theorem dX12_isAllowed_7 : decode cX12_isAllowed 7 = .ok (.iconst 1, 1) := by decide +kernel
theorem dX12_isAllowed_8 : decode cX12_isAllowed 8 = .ok (.ireturn, 1) := by decide +kernel
theorem dX12_isAllowed_9 : decode cX12_isAllowed 9 = .ok (.aload_n 0, 1) := by decide +kernel
theorem dX12_isAllowed_10 : decode cX12_isAllowed 10 = .ok (.getfield 150, 3) := by decide +kernel
theorem dX12_isAllowed_13 : decode cX12_isAllowed 13 = .ok (.iconst 3, 1) := by decide +kernel
theorem dX12_isAllowed_14 : decode cX12_isAllowed 14 = .ok (.if_icmp .ne 10, 3) := by decide +kernel
theorem dX12_isAllowed_17 : decode cX12_isAllowed 17 = .ok (.aload_n 0, 1) := by decide +kernel
theorem dX12_isAllowed_18 : decode cX12_isAllowed 18 = .ok (.getfield 19, 3) := by decide +kernel
theorem dX12_isAllowed_21 : decode cX12_isAllowed 21 = .ok (.iload_n 1, 1) := by decide +kernel
theorem dX12_isAllowed_22 : decode cX12_isAllowed 22 = .ok (.baload, 1) := by decide +kernel
theorem dX12_isAllowed_23 : decode cX12_isAllowed 23 = .ok (.ireturn, 1) := by decide +kernel
theorem dX12_isAllowed_24 : decode cX12_isAllowed 24 = .ok (.lconst 0, 1) := by decide +kernel
theorem dX12_isAllowed_25 : decode cX12_isAllowed 25 = .ok (.lstore_n 2, 1) := by decide +kernel
theorem dX12_isAllowed_26 : decode cX12_isAllowed 26 = .ok (.iconst 0, 1) := by decide +kernel
theorem dX12_isAllowed_27 : decode cX12_isAllowed 27 = .ok (.istore 4, 2) := by decide +kernel
theorem dX12_isAllowed_29 : decode cX12_isAllowed 29 = .ok (.iconst 0, 1) := by decide +kernel
theorem dX12_isAllowed_30 : decode cX12_isAllowed 30 = .ok (.istore 5, 2) := by decide +kernel
theorem dX12_isAllowed_32 : decode cX12_isAllowed 32 = .ok (.iload 5, 2) := by decide +kernel
theorem dX12_isAllowed_34 : decode cX12_isAllowed 34 = .ok (.aload_n 0, 1) := by decide +kernel
theorem dX12_isAllowed_35 : decode cX12_isAllowed 35 = .ok (.getfield 7, 3) := by decide +kernel
theorem dX12_isAllowed_38 : decode cX12_isAllowed 38 = .ok (.if_icmp .ge 65, 3) := by decide +kernel
theorem dX12_isAllowed_41 : decode cX12_isAllowed 41 = .ok (.lload_n 2, 1) := by decide +kernel
theorem dX12_isAllowed_42 : decode cX12_isAllowed 42 = .ok (.aload_n 0, 1) := by decide +kernel
theorem dX12_isAllowed_43 : decode cX12_isAllowed 43 = .ok (.iload_n 1, 1) := by decide +kernel
theorem dX12_isAllowed_44 : decode cX12_isAllowed 44 = .ok (.iload 5, 2) := by decide +kernel
theorem dX12_isAllowed_46 : decode cX12_isAllowed 46 = .ok (.invokevirtual 146, 3) := by decide +kernel
theorem dX12_isAllowed_49 : decode cX12_isAllowed 49 = .ok (.i2l, 1) := by decide +kernel
theorem dX12_isAllowed_50 : decode cX12_isAllowed 50 = .ok (.ladd, 1) := by decide +kernel
theorem dX12_isAllowed_51 : decode cX12_isAllowed 51 = .ok (.lstore_n 2, 1) := by decide +kernel
theorem dX12_isAllowed_52 : decode cX12_isAllowed 52 = .ok (.iconst 0, 1) := by decide +kernel
theorem dX12_isAllowed_53 : decode cX12_isAllowed 53 = .ok (.istore 6, 2) := by decide +kernel
theorem dX12_isAllowed_55 : decode cX12_isAllowed 55 = .ok (.iload 6, 2) := by decide +kernel
theorem dX12_isAllowed_57 : decode cX12_isAllowed 57 = .ok (.iload 5, 2) := by decide +kernel
theorem dX12_isAllowed_59 : decode cX12_isAllowed 59 = .ok (.if_icmp .ge 38, 3) := by decide +kernel
theorem dX12_isAllowed_62 : decode cX12_isAllowed 62 = .ok (.iload 4, 2) := by decide +kernel
theorem dX12_isAllowed_64 : decode cX12_isAllowed 64 = .ok (.ifCond .ne 20, 3) := by decide +kernel
theorem dX12_isAllowed_67 : decode cX12_isAllowed 67 = .ok (.aload_n 0, 1) := by decide +kernel
theorem dX12_isAllowed_68 : decode cX12_isAllowed 68 = .ok (.iload_n 1, 1) := by decide +kernel
theorem dX12_isAllowed_69 : decode cX12_isAllowed 69 = .ok (.iload 5, 2) := by decide +kernel
theorem dX12_isAllowed_71 : decode cX12_isAllowed 71 = .ok (.invokevirtual 146, 3) := by decide +kernel
theorem dX12_isAllowed_74 : decode cX12_isAllowed 74 = .ok (.aload_n 0, 1) := by decide +kernel
theorem dX12_isAllowed_75 : decode cX12_isAllowed 75 = .ok (.iload_n 1, 1) := by decide +kernel
theorem dX12_isAllowed_76 : decode cX12_isAllowed 76 = .ok (.iload 6, 2) := by decide +kernel
theorem dX12_isAllowed_78 : decode cX12_isAllowed 78 = .ok (.invokevirtual 146, 3) := by decide +kernel
theorem dX12_isAllowed_81 : decode cX12_isAllowed 81 = .ok (.if_icmp .ne 7, 3) := by decide +kernel
theorem dX12_isAllowed_84 : decode cX12_isAllowed 84 = .ok (.iconst 1, 1) := by decide +kernel
theorem dX12_isAllowed_85 : decode cX12_isAllowed 85 = .ok (.goto 4, 3) := by decide +kernel
theorem dX12_isAllowed_88 : decode cX12_isAllowed 88 = .ok (.iconst 0, 1) := by decide +kernel
theorem dX12_isAllowed_89 : decode cX12_isAllowed 89 = .ok (.istore 4, 2) := by decide +kernel
theorem dX12_isAllowed_91 : decode cX12_isAllowed 91 = .ok (.iinc 6 1, 3) := by decide +kernel
theorem dX12_isAllowed_94 : decode cX12_isAllowed 94 = .ok (.goto (-39), 3) := by decide +kernel
theorem dX12_isAllowed_97 : decode cX12_isAllowed 97 = .ok (.iinc 5 1, 3) := by decide +kernel
theorem dX12_isAllowed_100 : decode cX12_isAllowed 100 = .ok (.goto (-68), 3) := by decide +kernel
theorem dX12_isAllowed_103 : decode cX12_isAllowed 103 = .ok (.aload_n 0, 1) := by decide +kernel
theorem dX12_isAllowed_104 : decode cX12_isAllowed 104 = .ok (.getfield 150, 3) := by decide +kernel
theorem dX12_isAllowed_107 : decode cX12_isAllowed 107 = .ok (.iconst 1, 1) := by decide +kernel
theorem dX12_isAllowed_108 : decode cX12_isAllowed 108 = .ok (.if_icmp .ne 16, 3) := by decide +kernel
theorem dX12_isAllowed_111 : decode cX12_isAllowed 111 = .ok (.iload 4, 2) := by decide +kernel
theorem dX12_isAllowed_113 : decode cX12_isAllowed 113 = .ok (.ifCond .ne 7, 3) := by decide +kernel
theorem dX12_isAllowed_116 : decode cX12_isAllowed 116 = .ok (.iconst 1, 1) := by decide +kernel
theorem dX12_isAllowed_117 : decode cX12_isAllowed 117 = .ok (.goto 22, 3) := by decide +kernel
theorem dX12_isAllowed_120 : decode cX12_isAllowed 120 = .ok (.iconst 0, 1) := by decide +kernel
theorem dX12_isAllowed_121 : decode cX12_isAllowed 121 = .ok (.goto 18, 3) := by decide +kernel
theorem dX12_isAllowed_124 : decode cX12_isAllowed 124 = .ok (.lload_n 2, 1) := by decide +kernel
theorem dX12_isAllowed_125 : decode cX12_isAllowed 125 = .ok (.aload_n 0, 1) := by decide +kernel
theorem dX12_isAllowed_126 : decode cX12_isAllowed 126 = .ok (.getfield 153, 3) := by decide +kernel
theorem dX12_isAllowed_129 : decode cX12_isAllowed 129 = .ok (.i2l, 1) := by decide +kernel
theorem dX12_isAllowed_130 : decode cX12_isAllowed 130 = .ok (.lcmp, 1) := by decide +kernel
theorem dX12_isAllowed_131 : decode cX12_isAllowed 131 = .ok (.ifCond .ne 7, 3) := by decide +kernel
theorem dX12_isAllowed_134 : decode cX12_isAllowed 134 = .ok (.iconst 1, 1) := by decide +kernel
theorem dX12_isAllowed_135 : decode cX12_isAllowed 135 = .ok (.goto 4, 3) := by decide +kernel
theorem dX12_isAllowed_138 : decode cX12_isAllowed 138 = .ok (.iconst 0, 1) := by decide +kernel
theorem dX12_isAllowed_139 : decode cX12_isAllowed 139 = .ok (.ireturn, 1) := by decide +kernel
theorem dX12_falseOf_0 : decode cX12_falseOf 0 = .ok (.iconst 0, 1) := by decide +kernel
theorem dX12_falseOf_1 : decode cX12_falseOf 1 = .ok (.istore_n 3, 1) := by decide +kernel
theorem dX12_falseOf_2 : decode cX12_falseOf 2 = .ok (.iconst 0, 1) := by decide +kernel
theorem dX12_falseOf_3 : decode cX12_falseOf 3 = .ok (.istore 4, 2) := by decide +kernel
theorem dX12_falseOf_5 : decode cX12_falseOf 5 = .ok (.iload 4, 2) := by decide +kernel
theorem dX12_falseOf_7 : decode cX12_falseOf 7 = .ok (.iload_n 2, 1) := by decide +kernel
theorem dX12_falseOf_8 : decode cX12_falseOf 8 = .ok (.if_icmp .ge 37, 3) := by decide +kernel
theorem dX12_falseOf_11 : decode cX12_falseOf 11 = .ok (.aload_n 0, 1) := by decide +kernel
theorem dX12_falseOf_12 : decode cX12_falseOf 12 = .ok (.iload 4, 2) := by decide +kernel
theorem dX12_falseOf_14 : decode cX12_falseOf 14 = .ok (.invokevirtual 156, 3) := by decide +kernel
theorem dX12_falseOf_17 : decode cX12_falseOf 17 = .ok (.aload_n 0, 1) := by decide +kernel
theorem dX12_falseOf_18 : decode cX12_falseOf 18 = .ok (.iload_n 1, 1) := by decide +kernel
theorem dX12_falseOf_19 : decode cX12_falseOf 19 = .ok (.invokevirtual 160, 3) := by decide +kernel
theorem dX12_falseOf_22 : decode cX12_falseOf 22 = .ok (.aload_n 0, 1) := by decide +kernel
theorem dX12_falseOf_23 : decode cX12_falseOf 23 = .ok (.getfield 30, 3) := by decide +kernel
theorem dX12_falseOf_26 : decode cX12_falseOf 26 = .ok (.iload 4, 2) := by decide +kernel
theorem dX12_falseOf_28 : decode cX12_falseOf 28 = .ok (.iaload, 1) := by decide +kernel
theorem dX12_falseOf_29 : decode cX12_falseOf 29 = .ok (.if_icmp .eq 10, 3) := by decide +kernel
theorem dX12_falseOf_32 : decode cX12_falseOf 32 = .ok (.iload_n 3, 1) := by decide +kernel
theorem dX12_falseOf_33 : decode cX12_falseOf 33 = .ok (.iconst 1, 1) := by decide +kernel
theorem dX12_falseOf_34 : decode cX12_falseOf 34 = .ok (.iload 4, 2) := by decide +kernel
theorem dX12_falseOf_36 : decode cX12_falseOf 36 = .ok (.ishl, 1) := by decide +kernel
theorem dX12_falseOf_37 : decode cX12_falseOf 37 = .ok (.ior, 1) := by decide +kernel
theorem dX12_falseOf_38 : decode cX12_falseOf 38 = .ok (.istore_n 3, 1) := by decide +kernel
theorem dX12_falseOf_39 : decode cX12_falseOf 39 = .ok (.iinc 4 1, 3) := by decide +kernel
theorem dX12_falseOf_42 : decode cX12_falseOf 42 = .ok (.goto (-37), 3) := by decide +kernel
theorem dX12_falseOf_45 : decode cX12_falseOf 45 = .ok (.iload_n 3, 1) := by decide +kernel
theorem dX12_falseOf_46 : decode cX12_falseOf 46 = .ok (.ireturn, 1) := by decide +kernel
theorem dX12_ones_0 : decode cX12_ones 0 = .ok (.iconst 0, 1) := by decide +kernel
theorem dX12_ones_1 : decode cX12_ones 1 = .ok (.istore_n 1, 1) := by decide +kernel
theorem dX12_ones_2 : decode cX12_ones 2 = .ok (.iconst 0, 1) := by decide +kernel
theorem dX12_ones_3 : decode cX12_ones 3 = .ok (.istore_n 2, 1) := by decide +kernel
theorem dX12_ones_4 : decode cX12_ones 4 = .ok (.iload_n 2, 1) := by decide +kernel
theorem dX12_ones_5 : decode cX12_ones 5 = .ok (.bipush 11, 2) := by decide +kernel
theorem dX12_ones_7 : decode cX12_ones 7 = .ok (.if_icmp .ge 17, 3) := by decide +kernel
theorem dX12_ones_10 : decode cX12_ones 10 = .ok (.iload_n 1, 1) := by decide +kernel
theorem dX12_ones_11 : decode cX12_ones 11 = .ok (.iload_n 0, 1) := by decide +kernel
theorem dX12_ones_12 : decode cX12_ones 12 = .ok (.iload_n 2, 1) := by decide +kernel
theorem dX12_ones_13 : decode cX12_ones 13 = .ok (.ishr, 1) := by decide +kernel
theorem dX12_ones_14 : decode cX12_ones 14 = .ok (.iconst 1, 1) := by decide +kernel
theorem dX12_ones_15 : decode cX12_ones 15 = .ok (.iand, 1) := by decide +kernel
theorem dX12_ones_16 : decode cX12_ones 16 = .ok (.iadd, 1) := by decide +kernel
theorem dX12_ones_17 : decode cX12_ones 17 = .ok (.istore_n 1, 1) := by decide +kernel
theorem dX12_ones_18 : decode cX12_ones 18 = .ok (.iinc 2 1, 3) := by decide +kernel
theorem dX12_ones_21 : decode cX12_ones 21 = .ok (.goto (-17), 3) := by decide +kernel
theorem dX12_ones_24 : decode cX12_ones 24 = .ok (.iload_n 1, 1) := by decide +kernel
theorem dX12_ones_25 : decode cX12_ones 25 = .ok (.ireturn, 1) := by decide +kernel
theorem dX12_look_0 : decode cX12_look 0 = .ok (.aload_n 0, 1) := by decide +kernel
theorem dX12_look_1 : decode cX12_look 1 = .ok (.iconst 0, 1) := by decide +kernel
theorem dX12_look_2 : decode cX12_look 2 = .ok (.putfield 164, 3) := by decide +kernel
theorem dX12_look_5 : decode cX12_look 5 = .ok (.iconst 0, 1) := by decide +kernel
theorem dX12_look_6 : decode cX12_look 6 = .ok (.istore_n 1, 1) := by decide +kernel
theorem dX12_look_7 : decode cX12_look 7 = .ok (.iload_n 1, 1) := by decide +kernel
theorem dX12_look_8 : decode cX12_look 8 = .ok (.aload_n 0, 1) := by decide +kernel
theorem dX12_look_9 : decode cX12_look 9 = .ok (.getfield 16, 3) := by decide +kernel
theorem dX12_look_12 : decode cX12_look 12 = .ok (.if_icmp .ge 59, 3) := by decide +kernel
theorem dX12_look_15 : decode cX12_look 15 = .ok (.aload_n 0, 1) := by decide +kernel
theorem dX12_look_16 : decode cX12_look 16 = .ok (.iload_n 1, 1) := by decide +kernel
theorem dX12_look_17 : decode cX12_look 17 = .ok (.invokevirtual 167, 3) := by decide +kernel
theorem dX12_look_20 : decode cX12_look 20 = .ok (.ifCond .eq 45, 3) := by decide +kernel
theorem dX12_look_23 : decode cX12_look 23 = .ok (.aload_n 0, 1) := by decide +kernel
theorem dX12_look_24 : decode cX12_look 24 = .ok (.iload_n 1, 1) := by decide +kernel
theorem dX12_look_25 : decode cX12_look 25 = .ok (.aload_n 0, 1) := by decide +kernel
theorem dX12_look_26 : decode cX12_look 26 = .ok (.getfield 171, 3) := by decide +kernel
theorem dX12_look_29 : decode cX12_look 29 = .ok (.invokevirtual 174, 3) := by decide +kernel
theorem dX12_look_32 : decode cX12_look 32 = .ok (.invokestatic 177, 3) := by decide +kernel
theorem dX12_look_35 : decode cX12_look 35 = .ok (.aload_n 0, 1) := by decide +kernel
theorem dX12_look_36 : decode cX12_look 36 = .ok (.getfield 180, 3) := by decide +kernel
theorem dX12_look_39 : decode cX12_look 39 = .ok (.if_icmp .le 6, 3) := by decide +kernel
theorem dX12_look_42 : decode cX12_look 42 = .ok (.goto 23, 3) := by decide +kernel
theorem dX12_look_45 : decode cX12_look 45 = .ok (.aload_n 0, 1) := by decide +kernel
theorem dX12_look_46 : decode cX12_look 46 = .ok (.getfield 42, 3) := by decide +kernel
theorem dX12_look_49 : decode cX12_look 49 = .ok (.aload_n 0, 1) := by decide +kernel
theorem dX12_look_50 : decode cX12_look 50 = .ok (.getfield 164, 3) := by decide +kernel
theorem dX12_look_53 : decode cX12_look 53 = .ok (.iload_n 1, 1) := by decide +kernel
theorem dX12_look_54 : decode cX12_look 54 = .ok (.iastore, 1) := by decide +kernel
theorem dX12_look_55 : decode cX12_look 55 = .ok (.aload_n 0, 1) := by decide +kernel
theorem dX12_look_56 : decode cX12_look 56 = .ok (.dup, 1) := by decide +kernel
theorem dX12_look_57 : decode cX12_look 57 = .ok (.getfield 164, 3) := by decide +kernel
theorem dX12_look_60 : decode cX12_look 60 = .ok (.iconst 1, 1) := by decide +kernel
theorem dX12_look_61 : decode cX12_look 61 = .ok (.iadd, 1) := by decide +kernel
theorem dX12_look_62 : decode cX12_look 62 = .ok (.putfield 164, 3) := by decide +kernel
theorem dX12_look_65 : decode cX12_look 65 = .ok (.iinc 1 1, 3) := by decide +kernel
theorem dX12_look_68 : decode cX12_look 68 = .ok (.goto (-61), 3) := by decide +kernel
theorem dX12_look_71 : decode cX12_look 71 = .ok (.return_, 1) := by decide +kernel
theorem dX12_begin_0 : decode cX12_begin 0 = .ok (.aload_n 0, 1) := by decide +kernel
theorem dX12_begin_1 : decode cX12_begin 1 = .ok (.iconst 0, 1) := by decide +kernel
theorem dX12_begin_2 : decode cX12_begin 2 = .ok (.putfield 139, 3) := by decide +kernel
theorem dX12_begin_5 : decode cX12_begin 5 = .ok (.iload_n 1, 1) := by decide +kernel
theorem dX12_begin_6 : decode cX12_begin 6 = .ok (.iconst 1, 1) := by decide +kernel
theorem dX12_begin_7 : decode cX12_begin 7 = .ok (.iconst 5, 1) := by decide +kernel
theorem dX12_begin_8 : decode cX12_begin 8 = .ok (.invokestatic 142, 3) := by decide +kernel
theorem dX12_begin_11 : decode cX12_begin 11 = .ok (.ifCond .eq 13, 3) := by decide +kernel
theorem dX12_begin_14 : decode cX12_begin 14 = .ok (.iload_n 2, 1) := by decide +kernel
theorem dX12_begin_15 : decode cX12_begin 15 = .ok (.iconst 1, 1) := by decide +kernel
theorem dX12_begin_16 : decode cX12_begin 16 = .ok (.bipush 8, 2) := by decide +kernel
theorem dX12_begin_18 : decode cX12_begin 18 = .ok (.invokestatic 142, 3) := by decide +kernel
theorem dX12_begin_21 : decode cX12_begin 21 = .ok (.ifCond .ne 5, 3) := by decide +kernel
theorem dX12_begin_24 : decode cX12_begin 24 = .ok (.iconst (-1), 1) := by decide +kernel
theorem dX12_begin_25 : decode cX12_begin 25 = .ok (.ireturn, 1) := by decide +kernel
theorem dX12_begin_26 : decode cX12_begin 26 = .ok (.iconst 1, 1) := by decide +kernel
theorem dX12_begin_27 : decode cX12_begin 27 = .ok (.istore_n 3, 1) := by decide +kernel
theorem dX12_begin_28 : decode cX12_begin 28 = .ok (.iconst 0, 1) := by decide +kernel
theorem dX12_begin_29 : decode cX12_begin 29 = .ok (.istore 4, 2) := by decide +kernel
theorem dX12_begin_31 : decode cX12_begin 31 = .ok (.iload 4, 2) := by decide +kernel
theorem dX12_begin_33 : decode cX12_begin 33 = .ok (.iload_n 1, 1) := by decide +kernel
theorem dX12_begin_34 : decode cX12_begin 34 = .ok (.if_icmp .ge 13, 3) := by decide +kernel
theorem dX12_begin_37 : decode cX12_begin 37 = .ok (.iload_n 3, 1) := by decide +kernel
theorem dX12_begin_38 : decode cX12_begin 38 = .ok (.iload_n 2, 1) := by decide +kernel
theorem dX12_begin_39 : decode cX12_begin 39 = .ok (.imul, 1) := by decide +kernel
theorem dX12_begin_40 : decode cX12_begin 40 = .ok (.istore_n 3, 1) := by decide +kernel
theorem dX12_begin_41 : decode cX12_begin 41 = .ok (.iinc 4 1, 3) := by decide +kernel
theorem dX12_begin_44 : decode cX12_begin 44 = .ok (.goto (-13), 3) := by decide +kernel
theorem dX12_begin_47 : decode cX12_begin 47 = .ok (.iload_n 3, 1) := by decide +kernel
theorem dX12_begin_48 : decode cX12_begin 48 = .ok (.sipush 4096, 3) := by decide +kernel
theorem dX12_begin_51 : decode cX12_begin 51 = .ok (.if_icmp .le 6, 3) := by decide +kernel
theorem dX12_begin_54 : decode cX12_begin 54 = .ok (.bipush (-5), 2) := by decide +kernel
theorem dX12_begin_56 : decode cX12_begin 56 = .ok (.ireturn, 1) := by decide +kernel
theorem dX12_begin_57 : decode cX12_begin 57 = .ok (.aload_n 0, 1) := by decide +kernel
theorem dX12_begin_58 : decode cX12_begin 58 = .ok (.iload_n 1, 1) := by decide +kernel
theorem dX12_begin_59 : decode cX12_begin 59 = .ok (.putfield 7, 3) := by decide +kernel
theorem dX12_begin_62 : decode cX12_begin 62 = .ok (.aload_n 0, 1) := by decide +kernel
theorem dX12_begin_63 : decode cX12_begin 63 = .ok (.iload_n 2, 1) := by decide +kernel
theorem dX12_begin_64 : decode cX12_begin 64 = .ok (.putfield 13, 3) := by decide +kernel
theorem dX12_begin_67 : decode cX12_begin 67 = .ok (.aload_n 0, 1) := by decide +kernel
theorem dX12_begin_68 : decode cX12_begin 68 = .ok (.iload_n 3, 1) := by decide +kernel
theorem dX12_begin_69 : decode cX12_begin 69 = .ok (.putfield 16, 3) := by decide +kernel
theorem dX12_begin_72 : decode cX12_begin 72 = .ok (.aload_n 0, 1) := by decide +kernel
theorem dX12_begin_73 : decode cX12_begin 73 = .ok (.iconst 0, 1) := by decide +kernel
theorem dX12_begin_74 : decode cX12_begin 74 = .ok (.putfield 150, 3) := by decide +kernel
theorem dX12_begin_77 : decode cX12_begin 77 = .ok (.aload_n 0, 1) := by decide +kernel
theorem dX12_begin_78 : decode cX12_begin 78 = .ok (.iconst 0, 1) := by decide +kernel
theorem dX12_begin_79 : decode cX12_begin 79 = .ok (.putfield 153, 3) := by decide +kernel
theorem dX12_begin_82 : decode cX12_begin 82 = .ok (.aload_n 0, 1) := by decide +kernel
theorem dX12_begin_83 : decode cX12_begin 83 = .ok (.iconst 0, 1) := by decide +kernel
theorem dX12_begin_84 : decode cX12_begin 84 = .ok (.putfield 180, 3) := by decide +kernel
theorem dX12_begin_87 : decode cX12_begin 87 = .ok (.iconst 0, 1) := by decide +kernel
theorem dX12_begin_88 : decode cX12_begin 88 = .ok (.istore 4, 2) := by decide +kernel
theorem dX12_begin_90 : decode cX12_begin 90 = .ok (.iload 4, 2) := by decide +kernel
theorem dX12_begin_92 : decode cX12_begin 92 = .ok (.sipush 4096, 3) := by decide +kernel
theorem dX12_begin_95 : decode cX12_begin 95 = .ok (.if_icmp .ge 17, 3) := by decide +kernel
theorem dX12_begin_98 : decode cX12_begin 98 = .ok (.aload_n 0, 1) := by decide +kernel
theorem dX12_begin_99 : decode cX12_begin 99 = .ok (.getfield 19, 3) := by decide +kernel
theorem dX12_begin_102 : decode cX12_begin 102 = .ok (.iload 4, 2) := by decide +kernel
theorem dX12_begin_104 : decode cX12_begin 104 = .ok (.iconst 0, 1) := by decide +kernel
theorem dX12_begin_105 : decode cX12_begin 105 = .ok (.bastore, 1) := by decide +kernel
theorem dX12_begin_106 : decode cX12_begin 106 = .ok (.iinc 4 1, 3) := by decide +kernel
theorem dX12_begin_109 : decode cX12_begin 109 = .ok (.goto (-19), 3) := by decide +kernel
theorem dX12_begin_112 : decode cX12_begin 112 = .ok (.aload_n 0, 1) := by decide +kernel
theorem dX12_begin_113 : decode cX12_begin 113 = .ok (.iconst 0, 1) := by decide +kernel
theorem dX12_begin_114 : decode cX12_begin 114 = .ok (.putfield 183, 3) := by decide +kernel
theorem dX12_begin_117 : decode cX12_begin 117 = .ok (.iconst 0, 1) := by decide +kernel
theorem dX12_begin_118 : decode cX12_begin 118 = .ok (.istore 4, 2) := by decide +kernel
theorem dX12_begin_120 : decode cX12_begin 120 = .ok (.iload 4, 2) := by decide +kernel
theorem dX12_begin_122 : decode cX12_begin 122 = .ok (.iconst 5, 1) := by decide +kernel
theorem dX12_begin_123 : decode cX12_begin 123 = .ok (.if_icmp .ge 17, 3) := by decide +kernel
theorem dX12_begin_126 : decode cX12_begin 126 = .ok (.aload_n 0, 1) := by decide +kernel
theorem dX12_begin_127 : decode cX12_begin 127 = .ok (.getfield 23, 3) := by decide +kernel
theorem dX12_begin_130 : decode cX12_begin 130 = .ok (.iload 4, 2) := by decide +kernel
theorem dX12_begin_132 : decode cX12_begin 132 = .ok (.iconst (-1), 1) := by decide +kernel
theorem dX12_begin_133 : decode cX12_begin 133 = .ok (.iastore, 1) := by decide +kernel
theorem dX12_begin_134 : decode cX12_begin 134 = .ok (.iinc 4 1, 3) := by decide +kernel
theorem dX12_begin_137 : decode cX12_begin 137 = .ok (.goto (-17), 3) := by decide +kernel
theorem dX12_begin_140 : decode cX12_begin 140 = .ok (.aload_n 0, 1) := by decide +kernel
theorem dX12_begin_141 : decode cX12_begin 141 = .ok (.iconst 0, 1) := by decide +kernel
theorem dX12_begin_142 : decode cX12_begin 142 = .ok (.putfield 171, 3) := by decide +kernel
theorem dX12_begin_145 : decode cX12_begin 145 = .ok (.aload_n 0, 1) := by decide +kernel
theorem dX12_begin_146 : decode cX12_begin 146 = .ok (.iconst (-1), 1) := by decide +kernel
theorem dX12_begin_147 : decode cX12_begin 147 = .ok (.putfield 36, 3) := by decide +kernel
theorem dX12_begin_150 : decode cX12_begin 150 = .ok (.aload_n 0, 1) := by decide +kernel
theorem dX12_begin_151 : decode cX12_begin 151 = .ok (.iconst 0, 1) := by decide +kernel
theorem dX12_begin_152 : decode cX12_begin 152 = .ok (.putfield 186, 3) := by decide +kernel
theorem dX12_begin_155 : decode cX12_begin 155 = .ok (.aload_n 0, 1) := by decide +kernel
theorem dX12_begin_156 : decode cX12_begin 156 = .ok (.iconst 0, 1) := by decide +kernel
theorem dX12_begin_157 : decode cX12_begin 157 = .ok (.putfield 189, 3) := by decide +kernel
theorem dX12_begin_160 : decode cX12_begin 160 = .ok (.aload_n 0, 1) := by decide +kernel
theorem dX12_begin_161 : decode cX12_begin 161 = .ok (.iconst 0, 1) := by decide +kernel
theorem dX12_begin_162 : decode cX12_begin 162 = .ok (.putfield 192, 3) := by decide +kernel
theorem dX12_begin_165 : decode cX12_begin 165 = .ok (.iload_n 3, 1) := by decide +kernel
theorem dX12_begin_166 : decode cX12_begin 166 = .ok (.ireturn, 1) := by decide +kernel
theorem dX12_allowed_0 : decode cX12_allowed 0 = .ok (.iconst 0, 1) := by decide +kernel
theorem dX12_allowed_1 : decode cX12_allowed 1 = .ok (.istore_n 1, 1) := by decide +kernel
theorem dX12_allowed_2 : decode cX12_allowed 2 = .ok (.iconst 0, 1) := by decide +kernel
theorem dX12_allowed_3 : decode cX12_allowed 3 = .ok (.istore_n 2, 1) := by decide +kernel
theorem dX12_allowed_4 : decode cX12_allowed 4 = .ok (.iload_n 2, 1) := by decide +kernel
theorem dX12_allowed_5 : decode cX12_allowed 5 = .ok (.aload_n 0, 1) := by decide +kernel
theorem dX12_allowed_6 : decode cX12_allowed 6 = .ok (.getfield 16, 3) := by decide +kernel
theorem dX12_allowed_9 : decode cX12_allowed 9 = .ok (.if_icmp .ge 25, 3) := by decide +kernel
theorem dX12_allowed_12 : decode cX12_allowed 12 = .ok (.iload_n 1, 1) := by decide +kernel
theorem dX12_allowed_13 : decode cX12_allowed 13 = .ok (.aload_n 0, 1) := by decide +kernel
theorem dX12_allowed_14 : decode cX12_allowed 14 = .ok (.iload_n 2, 1) := by decide +kernel
theorem dX12_allowed_15 : decode cX12_allowed 15 = .ok (.invokevirtual 167, 3) := by decide +kernel
theorem dX12_allowed_18 : decode cX12_allowed 18 = .ok (.ifCond .eq 7, 3) := by decide +kernel
theorem dX12_allowed_21 : decode cX12_allowed 21 = .ok (.iconst 1, 1) := by decide +kernel
theorem dX12_allowed_22 : decode cX12_allowed 22 = .ok (.goto 4, 3) := by decide +kernel
theorem dX12_allowed_25 : decode cX12_allowed 25 = .ok (.iconst 0, 1) := by decide +kernel
theorem dX12_allowed_26 : decode cX12_allowed 26 = .ok (.iadd, 1) := by decide +kernel
theorem dX12_allowed_27 : decode cX12_allowed 27 = .ok (.istore_n 1, 1) := by decide +kernel
theorem dX12_allowed_28 : decode cX12_allowed 28 = .ok (.iinc 2 1, 3) := by decide +kernel
theorem dX12_allowed_31 : decode cX12_allowed 31 = .ok (.goto (-27), 3) := by decide +kernel
theorem dX12_allowed_34 : decode cX12_allowed 34 = .ok (.iload_n 1, 1) := by decide +kernel
theorem dX12_allowed_35 : decode cX12_allowed 35 = .ok (.ireturn, 1) := by decide +kernel
theorem dX12_law_0 : decode cX12_law 0 = .ok (.aload_n 0, 1) := by decide +kernel
theorem dX12_law_1 : decode cX12_law 1 = .ok (.iconst 0, 1) := by decide +kernel
theorem dX12_law_2 : decode cX12_law 2 = .ok (.putfield 139, 3) := by decide +kernel
theorem dX12_law_5 : decode cX12_law 5 = .ok (.iload_n 1, 1) := by decide +kernel
theorem dX12_law_6 : decode cX12_law 6 = .ok (.iconst 0, 1) := by decide +kernel
theorem dX12_law_7 : decode cX12_law 7 = .ok (.iconst 3, 1) := by decide +kernel
theorem dX12_law_8 : decode cX12_law 8 = .ok (.invokestatic 142, 3) := by decide +kernel
theorem dX12_law_11 : decode cX12_law 11 = .ok (.ifCond .ne 5, 3) := by decide +kernel
theorem dX12_law_14 : decode cX12_law 14 = .ok (.iconst (-1), 1) := by decide +kernel
theorem dX12_law_15 : decode cX12_law 15 = .ok (.ireturn, 1) := by decide +kernel
theorem dX12_law_16 : decode cX12_law 16 = .ok (.aload_n 0, 1) := by decide +kernel
theorem dX12_law_17 : decode cX12_law 17 = .ok (.getfield 171, 3) := by decide +kernel
theorem dX12_law_20 : decode cX12_law 20 = .ok (.ifCond .le 6, 3) := by decide +kernel
theorem dX12_law_23 : decode cX12_law 23 = .ok (.bipush (-3), 2) := by decide +kernel
theorem dX12_law_25 : decode cX12_law 25 = .ok (.ireturn, 1) := by decide +kernel
theorem dX12_law_26 : decode cX12_law 26 = .ok (.aload_n 0, 1) := by decide +kernel
theorem dX12_law_27 : decode cX12_law 27 = .ok (.iload_n 1, 1) := by decide +kernel
theorem dX12_law_28 : decode cX12_law 28 = .ok (.putfield 150, 3) := by decide +kernel
theorem dX12_law_31 : decode cX12_law 31 = .ok (.aload_n 0, 1) := by decide +kernel
theorem dX12_law_32 : decode cX12_law 32 = .ok (.iload_n 2, 1) := by decide +kernel
theorem dX12_law_33 : decode cX12_law 33 = .ok (.putfield 153, 3) := by decide +kernel
theorem dX12_law_36 : decode cX12_law 36 = .ok (.aload_n 0, 1) := by decide +kernel
theorem dX12_law_37 : decode cX12_law 37 = .ok (.invokevirtual 195, 3) := by decide +kernel
theorem dX12_law_40 : decode cX12_law 40 = .ok (.ireturn, 1) := by decide +kernel
theorem dX12_enlist_0 : decode cX12_enlist 0 = .ok (.aload_n 0, 1) := by decide +kernel
theorem dX12_enlist_1 : decode cX12_enlist 1 = .ok (.iconst 0, 1) := by decide +kernel
theorem dX12_enlist_2 : decode cX12_enlist 2 = .ok (.putfield 139, 3) := by decide +kernel
theorem dX12_enlist_5 : decode cX12_enlist 5 = .ok (.aload_n 0, 1) := by decide +kernel
theorem dX12_enlist_6 : decode cX12_enlist 6 = .ok (.iload_n 1, 1) := by decide +kernel
theorem dX12_enlist_7 : decode cX12_enlist 7 = .ok (.invokevirtual 199, 3) := by decide +kernel
theorem dX12_enlist_10 : decode cX12_enlist 10 = .ok (.ifCond .ne 5, 3) := by decide +kernel
theorem dX12_enlist_13 : decode cX12_enlist 13 = .ok (.iconst (-1), 1) := by decide +kernel
theorem dX12_enlist_14 : decode cX12_enlist 14 = .ok (.ireturn, 1) := by decide +kernel
theorem dX12_enlist_15 : decode cX12_enlist 15 = .ok (.aload_n 0, 1) := by decide +kernel
theorem dX12_enlist_16 : decode cX12_enlist 16 = .ok (.getfield 171, 3) := by decide +kernel
theorem dX12_enlist_19 : decode cX12_enlist 19 = .ok (.ifCond .le 6, 3) := by decide +kernel
theorem dX12_enlist_22 : decode cX12_enlist 22 = .ok (.bipush (-3), 2) := by decide +kernel
theorem dX12_enlist_24 : decode cX12_enlist 24 = .ok (.ireturn, 1) := by decide +kernel
theorem dX12_enlist_25 : decode cX12_enlist 25 = .ok (.aload_n 0, 1) := by decide +kernel
theorem dX12_enlist_26 : decode cX12_enlist 26 = .ok (.getfield 19, 3) := by decide +kernel
theorem dX12_enlist_29 : decode cX12_enlist 29 = .ok (.iload_n 1, 1) := by decide +kernel
theorem dX12_enlist_30 : decode cX12_enlist 30 = .ok (.baload, 1) := by decide +kernel
theorem dX12_enlist_31 : decode cX12_enlist 31 = .ok (.ifCond .eq 8, 3) := by decide +kernel
theorem dX12_enlist_34 : decode cX12_enlist 34 = .ok (.aload_n 0, 1) := by decide +kernel
theorem dX12_enlist_35 : decode cX12_enlist 35 = .ok (.getfield 183, 3) := by decide +kernel
theorem dX12_enlist_38 : decode cX12_enlist 38 = .ok (.ireturn, 1) := by decide +kernel
theorem dX12_enlist_39 : decode cX12_enlist 39 = .ok (.aload_n 0, 1) := by decide +kernel
theorem dX12_enlist_40 : decode cX12_enlist 40 = .ok (.getfield 183, 3) := by decide +kernel
theorem dX12_enlist_43 : decode cX12_enlist 43 = .ok (.sipush 300, 3) := by decide +kernel
theorem dX12_enlist_46 : decode cX12_enlist 46 = .ok (.if_icmp .ne 6, 3) := by decide +kernel
theorem dX12_enlist_49 : decode cX12_enlist 49 = .ok (.bipush (-2), 2) := by decide +kernel
theorem dX12_enlist_51 : decode cX12_enlist 51 = .ok (.ireturn, 1) := by decide +kernel
theorem dX12_enlist_52 : decode cX12_enlist 52 = .ok (.aload_n 0, 1) := by decide +kernel
theorem dX12_enlist_53 : decode cX12_enlist 53 = .ok (.getfield 19, 3) := by decide +kernel
theorem dX12_enlist_56 : decode cX12_enlist 56 = .ok (.iload_n 1, 1) := by decide +kernel
theorem dX12_enlist_57 : decode cX12_enlist 57 = .ok (.iconst 1, 1) := by decide +kernel
theorem dX12_enlist_58 : decode cX12_enlist 58 = .ok (.bastore, 1) := by decide +kernel
theorem dX12_enlist_59 : decode cX12_enlist 59 = .ok (.aload_n 0, 1) := by decide +kernel
theorem dX12_enlist_60 : decode cX12_enlist 60 = .ok (.dup, 1) := by decide +kernel
theorem dX12_enlist_61 : decode cX12_enlist 61 = .ok (.getfield 183, 3) := by decide +kernel
theorem dX12_enlist_64 : decode cX12_enlist 64 = .ok (.iconst 1, 1) := by decide +kernel
theorem dX12_enlist_65 : decode cX12_enlist 65 = .ok (.iadd, 1) := by decide +kernel
theorem dX12_enlist_66 : decode cX12_enlist 66 = .ok (.putfield 183, 3) := by decide +kernel
theorem dX12_enlist_69 : decode cX12_enlist 69 = .ok (.aload_n 0, 1) := by decide +kernel
theorem dX12_enlist_70 : decode cX12_enlist 70 = .ok (.getfield 183, 3) := by decide +kernel
theorem dX12_enlist_73 : decode cX12_enlist 73 = .ok (.ireturn, 1) := by decide +kernel
theorem dX12_lies_0 : decode cX12_lies 0 = .ok (.aload_n 0, 1) := by decide +kernel
theorem dX12_lies_1 : decode cX12_lies 1 = .ok (.iconst 0, 1) := by decide +kernel
theorem dX12_lies_2 : decode cX12_lies 2 = .ok (.putfield 139, 3) := by decide +kernel
theorem dX12_lies_5 : decode cX12_lies 5 = .ok (.iload_n 1, 1) := by decide +kernel
theorem dX12_lies_6 : decode cX12_lies 6 = .ok (.iconst 0, 1) := by decide +kernel
theorem dX12_lies_7 : decode cX12_lies 7 = .ok (.iconst 2, 1) := by decide +kernel
theorem dX12_lies_8 : decode cX12_lies 8 = .ok (.invokestatic 142, 3) := by decide +kernel
theorem dX12_lies_11 : decode cX12_lies 11 = .ok (.ifCond .ne 5, 3) := by decide +kernel
theorem dX12_lies_14 : decode cX12_lies 14 = .ok (.iconst (-1), 1) := by decide +kernel
theorem dX12_lies_15 : decode cX12_lies 15 = .ok (.ireturn, 1) := by decide +kernel
theorem dX12_lies_16 : decode cX12_lies 16 = .ok (.aload_n 0, 1) := by decide +kernel
theorem dX12_lies_17 : decode cX12_lies 17 = .ok (.getfield 171, 3) := by decide +kernel
theorem dX12_lies_20 : decode cX12_lies 20 = .ok (.ifCond .le 6, 3) := by decide +kernel
theorem dX12_lies_23 : decode cX12_lies 23 = .ok (.bipush (-3), 2) := by decide +kernel
theorem dX12_lies_25 : decode cX12_lies 25 = .ok (.ireturn, 1) := by decide +kernel
theorem dX12_lies_26 : decode cX12_lies 26 = .ok (.aload_n 0, 1) := by decide +kernel
theorem dX12_lies_27 : decode cX12_lies 27 = .ok (.getfield 180, 3) := by decide +kernel
theorem dX12_lies_30 : decode cX12_lies 30 = .ok (.istore_n 2, 1) := by decide +kernel
theorem dX12_lies_31 : decode cX12_lies 31 = .ok (.aload_n 0, 1) := by decide +kernel
theorem dX12_lies_32 : decode cX12_lies 32 = .ok (.iload_n 1, 1) := by decide +kernel
theorem dX12_lies_33 : decode cX12_lies 33 = .ok (.putfield 180, 3) := by decide +kernel
theorem dX12_lies_36 : decode cX12_lies 36 = .ok (.iload_n 2, 1) := by decide +kernel
theorem dX12_lies_37 : decode cX12_lies 37 = .ok (.ireturn, 1) := by decide +kernel
theorem dX12_found_0 : decode cX12_found 0 = .ok (.aload_n 0, 1) := by decide +kernel
theorem dX12_found_1 : decode cX12_found 1 = .ok (.dup, 1) := by decide +kernel
theorem dX12_found_2 : decode cX12_found 2 = .ok (.getfield 192, 3) := by decide +kernel
theorem dX12_found_5 : decode cX12_found 5 = .ok (.iconst 1, 1) := by decide +kernel
theorem dX12_found_6 : decode cX12_found 6 = .ok (.iadd, 1) := by decide +kernel
theorem dX12_found_7 : decode cX12_found 7 = .ok (.putfield 192, 3) := by decide +kernel
theorem dX12_found_10 : decode cX12_found 10 = .ok (.iload_n 1, 1) := by decide +kernel
theorem dX12_found_11 : decode cX12_found 11 = .ok (.ireturn, 1) := by decide +kernel
theorem dX12_peg_0 : decode cX12_peg 0 = .ok (.aload_n 0, 1) := by decide +kernel
theorem dX12_peg_1 : decode cX12_peg 1 = .ok (.iconst 0, 1) := by decide +kernel
theorem dX12_peg_2 : decode cX12_peg 2 = .ok (.putfield 139, 3) := by decide +kernel
theorem dX12_peg_5 : decode cX12_peg 5 = .ok (.iload_n 1, 1) := by decide +kernel
theorem dX12_peg_6 : decode cX12_peg 6 = .ok (.iconst 0, 1) := by decide +kernel
theorem dX12_peg_7 : decode cX12_peg 7 = .ok (.aload_n 0, 1) := by decide +kernel
theorem dX12_peg_8 : decode cX12_peg 8 = .ok (.getfield 7, 3) := by decide +kernel
theorem dX12_peg_11 : decode cX12_peg 11 = .ok (.iconst 1, 1) := by decide +kernel
theorem dX12_peg_12 : decode cX12_peg 12 = .ok (.isub, 1) := by decide +kernel
theorem dX12_peg_13 : decode cX12_peg 13 = .ok (.invokestatic 142, 3) := by decide +kernel
theorem dX12_peg_16 : decode cX12_peg 16 = .ok (.ifCond .ne 10, 3) := by decide +kernel
theorem dX12_peg_19 : decode cX12_peg 19 = .ok (.aload_n 0, 1) := by decide +kernel
theorem dX12_peg_20 : decode cX12_peg 20 = .ok (.bipush (-13), 2) := by decide +kernel
theorem dX12_peg_22 : decode cX12_peg 22 = .ok (.invokevirtual 202, 3) := by decide +kernel
theorem dX12_peg_25 : decode cX12_peg 25 = .ok (.ireturn, 1) := by decide +kernel
theorem dX12_peg_26 : decode cX12_peg 26 = .ok (.iload_n 2, 1) := by decide +kernel
theorem dX12_peg_27 : decode cX12_peg 27 = .ok (.iconst (-1), 1) := by decide +kernel
theorem dX12_peg_28 : decode cX12_peg 28 = .ok (.aload_n 0, 1) := by decide +kernel
theorem dX12_peg_29 : decode cX12_peg 29 = .ok (.getfield 13, 3) := by decide +kernel
theorem dX12_peg_32 : decode cX12_peg 32 = .ok (.iconst 1, 1) := by decide +kernel
theorem dX12_peg_33 : decode cX12_peg 33 = .ok (.isub, 1) := by decide +kernel
theorem dX12_peg_34 : decode cX12_peg 34 = .ok (.invokestatic 142, 3) := by decide +kernel
theorem dX12_peg_37 : decode cX12_peg 37 = .ok (.ifCond .ne 6, 3) := by decide +kernel
theorem dX12_peg_40 : decode cX12_peg 40 = .ok (.bipush (-16), 2) := by decide +kernel
theorem dX12_peg_42 : decode cX12_peg 42 = .ok (.ireturn, 1) := by decide +kernel
theorem dX12_peg_43 : decode cX12_peg 43 = .ok (.aload_n 0, 1) := by decide +kernel
theorem dX12_peg_44 : decode cX12_peg 44 = .ok (.getfield 23, 3) := by decide +kernel
theorem dX12_peg_47 : decode cX12_peg 47 = .ok (.iload_n 1, 1) := by decide +kernel
theorem dX12_peg_48 : decode cX12_peg 48 = .ok (.iaload, 1) := by decide +kernel
theorem dX12_peg_49 : decode cX12_peg 49 = .ok (.istore_n 3, 1) := by decide +kernel
theorem dX12_peg_50 : decode cX12_peg 50 = .ok (.aload_n 0, 1) := by decide +kernel
theorem dX12_peg_51 : decode cX12_peg 51 = .ok (.getfield 23, 3) := by decide +kernel
theorem dX12_peg_54 : decode cX12_peg 54 = .ok (.iload_n 1, 1) := by decide +kernel
theorem dX12_peg_55 : decode cX12_peg 55 = .ok (.iload_n 2, 1) := by decide +kernel
theorem dX12_peg_56 : decode cX12_peg 56 = .ok (.iastore, 1) := by decide +kernel
theorem dX12_peg_57 : decode cX12_peg 57 = .ok (.iload_n 3, 1) := by decide +kernel
theorem dX12_peg_58 : decode cX12_peg 58 = .ok (.ireturn, 1) := by decide +kernel
theorem dX12_show_0 : decode cX12_show 0 = .ok (.aload_n 0, 1) := by decide +kernel
theorem dX12_show_1 : decode cX12_show 1 = .ok (.iconst 0, 1) := by decide +kernel
theorem dX12_show_2 : decode cX12_show 2 = .ok (.putfield 139, 3) := by decide +kernel
theorem dX12_show_5 : decode cX12_show 5 = .ok (.aload_n 0, 1) := by decide +kernel
theorem dX12_show_6 : decode cX12_show 6 = .ok (.iload_n 1, 1) := by decide +kernel
theorem dX12_show_7 : decode cX12_show 7 = .ok (.invokevirtual 199, 3) := by decide +kernel
theorem dX12_show_10 : decode cX12_show 10 = .ok (.ifCond .ne 5, 3) := by decide +kernel
theorem dX12_show_13 : decode cX12_show 13 = .ok (.iconst (-1), 1) := by decide +kernel
theorem dX12_show_14 : decode cX12_show 14 = .ok (.ireturn, 1) := by decide +kernel
theorem dX12_show_15 : decode cX12_show 15 = .ok (.iconst 0, 1) := by decide +kernel
theorem dX12_show_16 : decode cX12_show 16 = .ok (.istore_n 2, 1) := by decide +kernel
theorem dX12_show_17 : decode cX12_show 17 = .ok (.iload_n 2, 1) := by decide +kernel
theorem dX12_show_18 : decode cX12_show 18 = .ok (.aload_n 0, 1) := by decide +kernel
theorem dX12_show_19 : decode cX12_show 19 = .ok (.getfield 7, 3) := by decide +kernel
theorem dX12_show_22 : decode cX12_show 22 = .ok (.if_icmp .ge 21, 3) := by decide +kernel
theorem dX12_show_25 : decode cX12_show 25 = .ok (.aload_n 0, 1) := by decide +kernel
theorem dX12_show_26 : decode cX12_show 26 = .ok (.getfield 23, 3) := by decide +kernel
theorem dX12_show_29 : decode cX12_show 29 = .ok (.iload_n 2, 1) := by decide +kernel
theorem dX12_show_30 : decode cX12_show 30 = .ok (.aload_n 0, 1) := by decide +kernel
theorem dX12_show_31 : decode cX12_show 31 = .ok (.iload_n 1, 1) := by decide +kernel
theorem dX12_show_32 : decode cX12_show 32 = .ok (.iload_n 2, 1) := by decide +kernel
theorem dX12_show_33 : decode cX12_show 33 = .ok (.invokevirtual 146, 3) := by decide +kernel
theorem dX12_show_36 : decode cX12_show 36 = .ok (.iastore, 1) := by decide +kernel
theorem dX12_show_37 : decode cX12_show 37 = .ok (.iinc 2 1, 3) := by decide +kernel
theorem dX12_show_40 : decode cX12_show 40 = .ok (.goto (-23), 3) := by decide +kernel
theorem dX12_show_43 : decode cX12_show 43 = .ok (.aload_n 0, 1) := by decide +kernel
theorem dX12_show_44 : decode cX12_show 44 = .ok (.invokevirtual 205, 3) := by decide +kernel
theorem dX12_show_47 : decode cX12_show 47 = .ok (.ireturn, 1) := by decide +kernel
theorem dX12_hand_0 : decode cX12_hand 0 = .ok (.aload_n 0, 1) := by decide +kernel
theorem dX12_hand_1 : decode cX12_hand 1 = .ok (.iconst 0, 1) := by decide +kernel
theorem dX12_hand_2 : decode cX12_hand 2 = .ok (.putfield 139, 3) := by decide +kernel
theorem dX12_hand_5 : decode cX12_hand 5 = .ok (.iload_n 1, 1) := by decide +kernel
theorem dX12_hand_6 : decode cX12_hand 6 = .ok (.iconst 0, 1) := by decide +kernel
theorem dX12_hand_7 : decode cX12_hand 7 = .ok (.aload_n 0, 1) := by decide +kernel
theorem dX12_hand_8 : decode cX12_hand 8 = .ok (.getfield 7, 3) := by decide +kernel
theorem dX12_hand_11 : decode cX12_hand 11 = .ok (.iconst 1, 1) := by decide +kernel
theorem dX12_hand_12 : decode cX12_hand 12 = .ok (.isub, 1) := by decide +kernel
theorem dX12_hand_13 : decode cX12_hand 13 = .ok (.invokestatic 142, 3) := by decide +kernel
theorem dX12_hand_16 : decode cX12_hand 16 = .ok (.ifCond .eq 12, 3) := by decide +kernel
theorem dX12_hand_19 : decode cX12_hand 19 = .ok (.aload_n 0, 1) := by decide +kernel
theorem dX12_hand_20 : decode cX12_hand 20 = .ok (.getfield 23, 3) := by decide +kernel
theorem dX12_hand_23 : decode cX12_hand 23 = .ok (.iload_n 1, 1) := by decide +kernel
theorem dX12_hand_24 : decode cX12_hand 24 = .ok (.iaload, 1) := by decide +kernel
theorem dX12_hand_25 : decode cX12_hand 25 = .ok (.goto 9, 3) := by decide +kernel
theorem dX12_hand_28 : decode cX12_hand 28 = .ok (.aload_n 0, 1) := by decide +kernel
theorem dX12_hand_29 : decode cX12_hand 29 = .ok (.bipush (-13), 2) := by decide +kernel
theorem dX12_hand_31 : decode cX12_hand 31 = .ok (.invokevirtual 202, 3) := by decide +kernel
theorem dX12_hand_34 : decode cX12_hand 34 = .ok (.ireturn, 1) := by decide +kernel
theorem dX12_sortOf_0 : decode cX12_sortOf 0 = .ok (.iconst 0, 1) := by decide +kernel
theorem dX12_sortOf_1 : decode cX12_sortOf 1 = .ok (.istore_n 1, 1) := by decide +kernel
theorem dX12_sortOf_2 : decode cX12_sortOf 2 = .ok (.iload_n 1, 1) := by decide +kernel
theorem dX12_sortOf_3 : decode cX12_sortOf 3 = .ok (.aload_n 0, 1) := by decide +kernel
theorem dX12_sortOf_4 : decode cX12_sortOf 4 = .ok (.getfield 7, 3) := by decide +kernel
theorem dX12_sortOf_7 : decode cX12_sortOf 7 = .ok (.if_icmp .ge 20, 3) := by decide +kernel
theorem dX12_sortOf_10 : decode cX12_sortOf 10 = .ok (.aload_n 0, 1) := by decide +kernel
theorem dX12_sortOf_11 : decode cX12_sortOf 11 = .ok (.getfield 23, 3) := by decide +kernel
theorem dX12_sortOf_14 : decode cX12_sortOf 14 = .ok (.iload_n 1, 1) := by decide +kernel
theorem dX12_sortOf_15 : decode cX12_sortOf 15 = .ok (.iaload, 1) := by decide +kernel
theorem dX12_sortOf_16 : decode cX12_sortOf 16 = .ok (.ifCond .ge 5, 3) := by decide +kernel
theorem dX12_sortOf_19 : decode cX12_sortOf 19 = .ok (.iconst 3, 1) := by decide +kernel
theorem dX12_sortOf_20 : decode cX12_sortOf 20 = .ok (.ireturn, 1) := by decide +kernel
theorem dX12_sortOf_21 : decode cX12_sortOf 21 = .ok (.iinc 1 1, 3) := by decide +kernel
theorem dX12_sortOf_24 : decode cX12_sortOf 24 = .ok (.goto (-22), 3) := by decide +kernel
theorem dX12_sortOf_27 : decode cX12_sortOf 27 = .ok (.iconst 0, 1) := by decide +kernel
theorem dX12_sortOf_28 : decode cX12_sortOf 28 = .ok (.istore_n 1, 1) := by decide +kernel
theorem dX12_sortOf_29 : decode cX12_sortOf 29 = .ok (.iconst 0, 1) := by decide +kernel
theorem dX12_sortOf_30 : decode cX12_sortOf 30 = .ok (.istore_n 2, 1) := by decide +kernel
theorem dX12_sortOf_31 : decode cX12_sortOf 31 = .ok (.iload_n 2, 1) := by decide +kernel
theorem dX12_sortOf_32 : decode cX12_sortOf 32 = .ok (.aload_n 0, 1) := by decide +kernel
theorem dX12_sortOf_33 : decode cX12_sortOf 33 = .ok (.getfield 7, 3) := by decide +kernel
theorem dX12_sortOf_36 : decode cX12_sortOf 36 = .ok (.if_icmp .ge 23, 3) := by decide +kernel
theorem dX12_sortOf_39 : decode cX12_sortOf 39 = .ok (.aload_n 0, 1) := by decide +kernel
theorem dX12_sortOf_40 : decode cX12_sortOf 40 = .ok (.getfield 13, 3) := by decide +kernel
theorem dX12_sortOf_43 : decode cX12_sortOf 43 = .ok (.iload_n 1, 1) := by decide +kernel
theorem dX12_sortOf_44 : decode cX12_sortOf 44 = .ok (.imul, 1) := by decide +kernel
theorem dX12_sortOf_45 : decode cX12_sortOf 45 = .ok (.aload_n 0, 1) := by decide +kernel
theorem dX12_sortOf_46 : decode cX12_sortOf 46 = .ok (.getfield 23, 3) := by decide +kernel
theorem dX12_sortOf_49 : decode cX12_sortOf 49 = .ok (.iload_n 2, 1) := by decide +kernel
theorem dX12_sortOf_50 : decode cX12_sortOf 50 = .ok (.iaload, 1) := by decide +kernel
theorem dX12_sortOf_51 : decode cX12_sortOf 51 = .ok (.iadd, 1) := by decide +kernel
theorem dX12_sortOf_52 : decode cX12_sortOf 52 = .ok (.istore_n 1, 1) := by decide +kernel
theorem dX12_sortOf_53 : decode cX12_sortOf 53 = .ok (.iinc 2 1, 3) := by decide +kernel
theorem dX12_sortOf_56 : decode cX12_sortOf 56 = .ok (.goto (-25), 3) := by decide +kernel
theorem dX12_sortOf_59 : decode cX12_sortOf 59 = .ok (.aload_n 0, 1) := by decide +kernel
theorem dX12_sortOf_60 : decode cX12_sortOf 60 = .ok (.invokevirtual 208, 3) := by decide +kernel
theorem dX12_sortOf_63 : decode cX12_sortOf 63 = .ok (.iconst 0, 1) := by decide +kernel
theorem dX12_sortOf_64 : decode cX12_sortOf 64 = .ok (.istore_n 2, 1) := by decide +kernel
theorem dX12_sortOf_65 : decode cX12_sortOf 65 = .ok (.iconst 0, 1) := by decide +kernel
theorem dX12_sortOf_66 : decode cX12_sortOf 66 = .ok (.istore_n 3, 1) := by decide +kernel
theorem dX12_sortOf_67 : decode cX12_sortOf 67 = .ok (.iload_n 3, 1) := by decide +kernel
theorem dX12_sortOf_68 : decode cX12_sortOf 68 = .ok (.aload_n 0, 1) := by decide +kernel
theorem dX12_sortOf_69 : decode cX12_sortOf 69 = .ok (.getfield 164, 3) := by decide +kernel
theorem dX12_sortOf_72 : decode cX12_sortOf 72 = .ok (.if_icmp .ge 29, 3) := by decide +kernel
theorem dX12_sortOf_75 : decode cX12_sortOf 75 = .ok (.iload_n 2, 1) := by decide +kernel
theorem dX12_sortOf_76 : decode cX12_sortOf 76 = .ok (.ifCond .ne 13, 3) := by decide +kernel
theorem dX12_sortOf_79 : decode cX12_sortOf 79 = .ok (.aload_n 0, 1) := by decide +kernel
theorem dX12_sortOf_80 : decode cX12_sortOf 80 = .ok (.getfield 42, 3) := by decide +kernel
theorem dX12_sortOf_83 : decode cX12_sortOf 83 = .ok (.iload_n 3, 1) := by decide +kernel
theorem dX12_sortOf_84 : decode cX12_sortOf 84 = .ok (.iaload, 1) := by decide +kernel
theorem dX12_sortOf_85 : decode cX12_sortOf 85 = .ok (.iload_n 1, 1) := by decide +kernel
theorem dX12_sortOf_86 : decode cX12_sortOf 86 = .ok (.if_icmp .ne 7, 3) := by decide +kernel
theorem dX12_sortOf_89 : decode cX12_sortOf 89 = .ok (.iconst 1, 1) := by decide +kernel
theorem dX12_sortOf_90 : decode cX12_sortOf 90 = .ok (.goto 4, 3) := by decide +kernel
theorem dX12_sortOf_93 : decode cX12_sortOf 93 = .ok (.iconst 0, 1) := by decide +kernel
theorem dX12_sortOf_94 : decode cX12_sortOf 94 = .ok (.istore_n 2, 1) := by decide +kernel
theorem dX12_sortOf_95 : decode cX12_sortOf 95 = .ok (.iinc 3 1, 3) := by decide +kernel
theorem dX12_sortOf_98 : decode cX12_sortOf 98 = .ok (.goto (-31), 3) := by decide +kernel
theorem dX12_sortOf_101 : decode cX12_sortOf 101 = .ok (.iload_n 2, 1) := by decide +kernel
theorem dX12_sortOf_102 : decode cX12_sortOf 102 = .ok (.ifCond .ne 5, 3) := by decide +kernel
theorem dX12_sortOf_105 : decode cX12_sortOf 105 = .ok (.iconst 0, 1) := by decide +kernel
theorem dX12_sortOf_106 : decode cX12_sortOf 106 = .ok (.ireturn, 1) := by decide +kernel
theorem dX12_sortOf_107 : decode cX12_sortOf 107 = .ok (.aload_n 0, 1) := by decide +kernel
theorem dX12_sortOf_108 : decode cX12_sortOf 108 = .ok (.getfield 164, 3) := by decide +kernel
theorem dX12_sortOf_111 : decode cX12_sortOf 111 = .ok (.iconst 1, 1) := by decide +kernel
theorem dX12_sortOf_112 : decode cX12_sortOf 112 = .ok (.if_icmp .ne 5, 3) := by decide +kernel
theorem dX12_sortOf_115 : decode cX12_sortOf 115 = .ok (.iconst 4, 1) := by decide +kernel
theorem dX12_sortOf_116 : decode cX12_sortOf 116 = .ok (.ireturn, 1) := by decide +kernel
theorem dX12_sortOf_117 : decode cX12_sortOf 117 = .ok (.aload_n 0, 1) := by decide +kernel
theorem dX12_sortOf_118 : decode cX12_sortOf 118 = .ok (.invokevirtual 211, 3) := by decide +kernel
theorem dX12_sortOf_121 : decode cX12_sortOf 121 = .ok (.iconst 0, 1) := by decide +kernel
theorem dX12_sortOf_122 : decode cX12_sortOf 122 = .ok (.istore_n 3, 1) := by decide +kernel
theorem dX12_sortOf_123 : decode cX12_sortOf 123 = .ok (.iload_n 3, 1) := by decide +kernel
theorem dX12_sortOf_124 : decode cX12_sortOf 124 = .ok (.aload_n 0, 1) := by decide +kernel
theorem dX12_sortOf_125 : decode cX12_sortOf 125 = .ok (.getfield 164, 3) := by decide +kernel
theorem dX12_sortOf_128 : decode cX12_sortOf 128 = .ok (.if_icmp .ge 50, 3) := by decide +kernel
theorem dX12_sortOf_131 : decode cX12_sortOf 131 = .ok (.iconst 0, 1) := by decide +kernel
theorem dX12_sortOf_132 : decode cX12_sortOf 132 = .ok (.istore 4, 2) := by decide +kernel
theorem dX12_sortOf_134 : decode cX12_sortOf 134 = .ok (.iload 4, 2) := by decide +kernel
theorem dX12_sortOf_136 : decode cX12_sortOf 136 = .ok (.iload_n 3, 1) := by decide +kernel
theorem dX12_sortOf_137 : decode cX12_sortOf 137 = .ok (.if_icmp .ge 35, 3) := by decide +kernel
theorem dX12_sortOf_140 : decode cX12_sortOf 140 = .ok (.aload_n 0, 1) := by decide +kernel
theorem dX12_sortOf_141 : decode cX12_sortOf 141 = .ok (.aload_n 0, 1) := by decide +kernel
theorem dX12_sortOf_142 : decode cX12_sortOf 142 = .ok (.getfield 42, 3) := by decide +kernel
theorem dX12_sortOf_145 : decode cX12_sortOf 145 = .ok (.iload_n 3, 1) := by decide +kernel
theorem dX12_sortOf_146 : decode cX12_sortOf 146 = .ok (.iaload, 1) := by decide +kernel
theorem dX12_sortOf_147 : decode cX12_sortOf 147 = .ok (.invokevirtual 160, 3) := by decide +kernel
theorem dX12_sortOf_150 : decode cX12_sortOf 150 = .ok (.aload_n 0, 1) := by decide +kernel
theorem dX12_sortOf_151 : decode cX12_sortOf 151 = .ok (.aload_n 0, 1) := by decide +kernel
theorem dX12_sortOf_152 : decode cX12_sortOf 152 = .ok (.getfield 42, 3) := by decide +kernel
theorem dX12_sortOf_155 : decode cX12_sortOf 155 = .ok (.iload 4, 2) := by decide +kernel
theorem dX12_sortOf_157 : decode cX12_sortOf 157 = .ok (.iaload, 1) := by decide +kernel
theorem dX12_sortOf_158 : decode cX12_sortOf 158 = .ok (.invokevirtual 160, 3) := by decide +kernel
theorem dX12_sortOf_161 : decode cX12_sortOf 161 = .ok (.if_icmp .ne 5, 3) := by decide +kernel
theorem dX12_sortOf_164 : decode cX12_sortOf 164 = .ok (.iconst 1, 1) := by decide +kernel
theorem dX12_sortOf_165 : decode cX12_sortOf 165 = .ok (.ireturn, 1) := by decide +kernel
theorem dX12_sortOf_166 : decode cX12_sortOf 166 = .ok (.iinc 4 1, 3) := by decide +kernel
theorem dX12_sortOf_169 : decode cX12_sortOf 169 = .ok (.goto (-35), 3) := by decide +kernel
theorem dX12_sortOf_172 : decode cX12_sortOf 172 = .ok (.iinc 3 1, 3) := by decide +kernel
theorem dX12_sortOf_175 : decode cX12_sortOf 175 = .ok (.goto (-52), 3) := by decide +kernel
theorem dX12_sortOf_178 : decode cX12_sortOf 178 = .ok (.iconst 2, 1) := by decide +kernel
theorem dX12_sortOf_179 : decode cX12_sortOf 179 = .ok (.ireturn, 1) := by decide +kernel
theorem dX12_sort_0 : decode cX12_sort 0 = .ok (.aload_n 0, 1) := by decide +kernel
theorem dX12_sort_1 : decode cX12_sort 1 = .ok (.iconst 0, 1) := by decide +kernel
theorem dX12_sort_2 : decode cX12_sort 2 = .ok (.putfield 139, 3) := by decide +kernel
theorem dX12_sort_5 : decode cX12_sort 5 = .ok (.aload_n 0, 1) := by decide +kernel
theorem dX12_sort_6 : decode cX12_sort 6 = .ok (.invokevirtual 205, 3) := by decide +kernel
theorem dX12_sort_9 : decode cX12_sort 9 = .ok (.ireturn, 1) := by decide +kernel
theorem dX12_answer_0 : decode cX12_answer 0 = .ok (.aload_n 0, 1) := by decide +kernel
theorem dX12_answer_1 : decode cX12_answer 1 = .ok (.iconst 0, 1) := by decide +kernel
theorem dX12_answer_2 : decode cX12_answer 2 = .ok (.putfield 139, 3) := by decide +kernel
theorem dX12_answer_5 : decode cX12_answer 5 = .ok (.aload_n 0, 1) := by decide +kernel
theorem dX12_answer_6 : decode cX12_answer 6 = .ok (.iload_n 1, 1) := by decide +kernel
theorem dX12_answer_7 : decode cX12_answer 7 = .ok (.invokevirtual 199, 3) := by decide +kernel
theorem dX12_answer_10 : decode cX12_answer 10 = .ok (.ifCond .eq 11, 3) := by decide +kernel
theorem dX12_answer_13 : decode cX12_answer 13 = .ok (.aload_n 0, 1) := by decide +kernel
theorem dX12_answer_14 : decode cX12_answer 14 = .ok (.iload_n 2, 1) := by decide +kernel
theorem dX12_answer_15 : decode cX12_answer 15 = .ok (.invokevirtual 199, 3) := by decide +kernel
theorem dX12_answer_18 : decode cX12_answer 18 = .ok (.ifCond .ne 5, 3) := by decide +kernel
theorem dX12_answer_21 : decode cX12_answer 21 = .ok (.iconst (-1), 1) := by decide +kernel
theorem dX12_answer_22 : decode cX12_answer 22 = .ok (.ireturn, 1) := by decide +kernel
theorem dX12_answer_23 : decode cX12_answer 23 = .ok (.aload_n 0, 1) := by decide +kernel
theorem dX12_answer_24 : decode cX12_answer 24 = .ok (.iload_n 1, 1) := by decide +kernel
theorem dX12_answer_25 : decode cX12_answer 25 = .ok (.invokevirtual 214, 3) := by decide +kernel
theorem dX12_answer_28 : decode cX12_answer 28 = .ok (.aload_n 0, 1) := by decide +kernel
theorem dX12_answer_29 : decode cX12_answer 29 = .ok (.iload_n 2, 1) := by decide +kernel
theorem dX12_answer_30 : decode cX12_answer 30 = .ok (.invokevirtual 160, 3) := by decide +kernel
theorem dX12_answer_33 : decode cX12_answer 33 = .ok (.ireturn, 1) := by decide +kernel
theorem dX12_reply_0 : decode cX12_reply 0 = .ok (.aload_n 0, 1) := by decide +kernel
theorem dX12_reply_1 : decode cX12_reply 1 = .ok (.iconst 0, 1) := by decide +kernel
theorem dX12_reply_2 : decode cX12_reply 2 = .ok (.putfield 139, 3) := by decide +kernel
theorem dX12_reply_5 : decode cX12_reply 5 = .ok (.aload_n 0, 1) := by decide +kernel
theorem dX12_reply_6 : decode cX12_reply 6 = .ok (.iload_n 1, 1) := by decide +kernel
theorem dX12_reply_7 : decode cX12_reply 7 = .ok (.invokevirtual 199, 3) := by decide +kernel
theorem dX12_reply_10 : decode cX12_reply 10 = .ok (.ifCond .ne 5, 3) := by decide +kernel
theorem dX12_reply_13 : decode cX12_reply 13 = .ok (.iconst (-1), 1) := by decide +kernel
theorem dX12_reply_14 : decode cX12_reply 14 = .ok (.ireturn, 1) := by decide +kernel
theorem dX12_reply_15 : decode cX12_reply 15 = .ok (.aload_n 0, 1) := by decide +kernel
theorem dX12_reply_16 : decode cX12_reply 16 = .ok (.invokevirtual 211, 3) := by decide +kernel
theorem dX12_reply_19 : decode cX12_reply 19 = .ok (.aload_n 0, 1) := by decide +kernel
theorem dX12_reply_20 : decode cX12_reply 20 = .ok (.iload_n 1, 1) := by decide +kernel
theorem dX12_reply_21 : decode cX12_reply 21 = .ok (.invokevirtual 160, 3) := by decide +kernel
theorem dX12_reply_24 : decode cX12_reply 24 = .ok (.ireturn, 1) := by decide +kernel
theorem dX12_quarrels_0 : decode cX12_quarrels 0 = .ok (.iconst 0, 1) := by decide +kernel
theorem dX12_quarrels_1 : decode cX12_quarrels 1 = .ok (.istore_n 2, 1) := by decide +kernel
theorem dX12_quarrels_2 : decode cX12_quarrels 2 = .ok (.iload_n 2, 1) := by decide +kernel
theorem dX12_quarrels_3 : decode cX12_quarrels 3 = .ok (.aload_n 0, 1) := by decide +kernel
theorem dX12_quarrels_4 : decode cX12_quarrels 4 = .ok (.getfield 16, 3) := by decide +kernel
theorem dX12_quarrels_7 : decode cX12_quarrels 7 = .ok (.if_icmp .ge 33, 3) := by decide +kernel
theorem dX12_quarrels_10 : decode cX12_quarrels 10 = .ok (.aload_n 0, 1) := by decide +kernel
theorem dX12_quarrels_11 : decode cX12_quarrels 11 = .ok (.getfield 45, 3) := by decide +kernel
theorem dX12_quarrels_14 : decode cX12_quarrels 14 = .ok (.iload_n 2, 1) := by decide +kernel
theorem dX12_quarrels_15 : decode cX12_quarrels 15 = .ok (.aload_n 0, 1) := by decide +kernel
theorem dX12_quarrels_16 : decode cX12_quarrels 16 = .ok (.iload_n 2, 1) := by decide +kernel
theorem dX12_quarrels_17 : decode cX12_quarrels 17 = .ok (.invokevirtual 167, 3) := by decide +kernel
theorem dX12_quarrels_20 : decode cX12_quarrels 20 = .ok (.ifCond .eq 12, 3) := by decide +kernel
theorem dX12_quarrels_23 : decode cX12_quarrels 23 = .ok (.aload_n 0, 1) := by decide +kernel
theorem dX12_quarrels_24 : decode cX12_quarrels 24 = .ok (.iload_n 2, 1) := by decide +kernel
theorem dX12_quarrels_25 : decode cX12_quarrels 25 = .ok (.iload_n 1, 1) := by decide +kernel
theorem dX12_quarrels_26 : decode cX12_quarrels 26 = .ok (.invokevirtual 174, 3) := by decide +kernel
theorem dX12_quarrels_29 : decode cX12_quarrels 29 = .ok (.goto 4, 3) := by decide +kernel
theorem dX12_quarrels_32 : decode cX12_quarrels 32 = .ok (.iconst (-1), 1) := by decide +kernel
theorem dX12_quarrels_33 : decode cX12_quarrels 33 = .ok (.iastore, 1) := by decide +kernel
theorem dX12_quarrels_34 : decode cX12_quarrels 34 = .ok (.iinc 2 1, 3) := by decide +kernel
theorem dX12_quarrels_37 : decode cX12_quarrels 37 = .ok (.goto (-35), 3) := by decide +kernel
theorem dX12_quarrels_40 : decode cX12_quarrels 40 = .ok (.iconst (-1), 1) := by decide +kernel
theorem dX12_quarrels_41 : decode cX12_quarrels 41 = .ok (.istore_n 2, 1) := by decide +kernel
theorem dX12_quarrels_42 : decode cX12_quarrels 42 = .ok (.iconst 0, 1) := by decide +kernel
theorem dX12_quarrels_43 : decode cX12_quarrels 43 = .ok (.istore_n 3, 1) := by decide +kernel
theorem dX12_quarrels_44 : decode cX12_quarrels 44 = .ok (.iload_n 3, 1) := by decide +kernel
theorem dX12_quarrels_45 : decode cX12_quarrels 45 = .ok (.iconst 1, 1) := by decide +kernel
theorem dX12_quarrels_46 : decode cX12_quarrels 46 = .ok (.iload_n 1, 1) := by decide +kernel
theorem dX12_quarrels_47 : decode cX12_quarrels 47 = .ok (.ishl, 1) := by decide +kernel
theorem dX12_quarrels_48 : decode cX12_quarrels 48 = .ok (.if_icmp .ge 97, 3) := by decide +kernel
theorem dX12_quarrels_51 : decode cX12_quarrels 51 = .ok (.iload_n 2, 1) := by decide +kernel
theorem dX12_quarrels_52 : decode cX12_quarrels 52 = .ok (.ifCond .lt 17, 3) := by decide +kernel
theorem dX12_quarrels_55 : decode cX12_quarrels 55 = .ok (.iload_n 3, 1) := by decide +kernel
theorem dX12_quarrels_56 : decode cX12_quarrels 56 = .ok (.invokestatic 177, 3) := by decide +kernel
theorem dX12_quarrels_59 : decode cX12_quarrels 59 = .ok (.iload_n 2, 1) := by decide +kernel
theorem dX12_quarrels_60 : decode cX12_quarrels 60 = .ok (.invokestatic 177, 3) := by decide +kernel
theorem dX12_quarrels_63 : decode cX12_quarrels 63 = .ok (.if_icmp .lt 6, 3) := by decide +kernel
theorem dX12_quarrels_66 : decode cX12_quarrels 66 = .ok (.goto 73, 3) := by decide +kernel
theorem dX12_quarrels_69 : decode cX12_quarrels 69 = .ok (.iconst 1, 1) := by decide +kernel
theorem dX12_quarrels_70 : decode cX12_quarrels 70 = .ok (.istore 4, 2) := by decide +kernel
theorem dX12_quarrels_72 : decode cX12_quarrels 72 = .ok (.iconst 0, 1) := by decide +kernel
theorem dX12_quarrels_73 : decode cX12_quarrels 73 = .ok (.istore 5, 2) := by decide +kernel
theorem dX12_quarrels_75 : decode cX12_quarrels 75 = .ok (.iload 5, 2) := by decide +kernel
theorem dX12_quarrels_77 : decode cX12_quarrels 77 = .ok (.aload_n 0, 1) := by decide +kernel
theorem dX12_quarrels_78 : decode cX12_quarrels 78 = .ok (.getfield 16, 3) := by decide +kernel
theorem dX12_quarrels_81 : decode cX12_quarrels 81 = .ok (.if_icmp .ge 51, 3) := by decide +kernel
theorem dX12_quarrels_84 : decode cX12_quarrels 84 = .ok (.iload 4, 2) := by decide +kernel
theorem dX12_quarrels_86 : decode cX12_quarrels 86 = .ok (.ifCond .eq 46, 3) := by decide +kernel
theorem dX12_quarrels_89 : decode cX12_quarrels 89 = .ok (.aload_n 0, 1) := by decide +kernel
theorem dX12_quarrels_90 : decode cX12_quarrels 90 = .ok (.getfield 45, 3) := by decide +kernel
theorem dX12_quarrels_93 : decode cX12_quarrels 93 = .ok (.iload 5, 2) := by decide +kernel
theorem dX12_quarrels_95 : decode cX12_quarrels 95 = .ok (.iaload, 1) := by decide +kernel
theorem dX12_quarrels_96 : decode cX12_quarrels 96 = .ok (.iconst (-1), 1) := by decide +kernel
theorem dX12_quarrels_97 : decode cX12_quarrels 97 = .ok (.if_icmp .eq 22, 3) := by decide +kernel
theorem dX12_quarrels_100 : decode cX12_quarrels 100 = .ok (.aload_n 0, 1) := by decide +kernel
theorem dX12_quarrels_101 : decode cX12_quarrels 101 = .ok (.getfield 45, 3) := by decide +kernel
theorem dX12_quarrels_104 : decode cX12_quarrels 104 = .ok (.iload 5, 2) := by decide +kernel
theorem dX12_quarrels_106 : decode cX12_quarrels 106 = .ok (.iaload, 1) := by decide +kernel
theorem dX12_quarrels_107 : decode cX12_quarrels 107 = .ok (.iload_n 3, 1) := by decide +kernel
theorem dX12_quarrels_108 : decode cX12_quarrels 108 = .ok (.iand, 1) := by decide +kernel
theorem dX12_quarrels_109 : decode cX12_quarrels 109 = .ok (.invokestatic 177, 3) := by decide +kernel
theorem dX12_quarrels_112 : decode cX12_quarrels 112 = .ok (.aload_n 0, 1) := by decide +kernel
theorem dX12_quarrels_113 : decode cX12_quarrels 113 = .ok (.getfield 180, 3) := by decide +kernel
theorem dX12_quarrels_116 : decode cX12_quarrels 116 = .ok (.if_icmp .le 7, 3) := by decide +kernel
theorem dX12_quarrels_119 : decode cX12_quarrels 119 = .ok (.iconst 1, 1) := by decide +kernel
theorem dX12_quarrels_120 : decode cX12_quarrels 120 = .ok (.goto 4, 3) := by decide +kernel
theorem dX12_quarrels_123 : decode cX12_quarrels 123 = .ok (.iconst 0, 1) := by decide +kernel
theorem dX12_quarrels_124 : decode cX12_quarrels 124 = .ok (.istore 4, 2) := by decide +kernel
theorem dX12_quarrels_126 : decode cX12_quarrels 126 = .ok (.iinc 5 1, 3) := by decide +kernel
theorem dX12_quarrels_129 : decode cX12_quarrels 129 = .ok (.goto (-54), 3) := by decide +kernel
theorem dX12_quarrels_132 : decode cX12_quarrels 132 = .ok (.iload 4, 2) := by decide +kernel
theorem dX12_quarrels_134 : decode cX12_quarrels 134 = .ok (.ifCond .eq 5, 3) := by decide +kernel
theorem dX12_quarrels_137 : decode cX12_quarrels 137 = .ok (.iload_n 3, 1) := by decide +kernel
theorem dX12_quarrels_138 : decode cX12_quarrels 138 = .ok (.istore_n 2, 1) := by decide +kernel
theorem dX12_quarrels_139 : decode cX12_quarrels 139 = .ok (.iinc 3 1, 3) := by decide +kernel
theorem dX12_quarrels_142 : decode cX12_quarrels 142 = .ok (.goto (-98), 3) := by decide +kernel
theorem dX12_quarrels_145 : decode cX12_quarrels 145 = .ok (.aload_n 0, 1) := by decide +kernel
theorem dX12_quarrels_146 : decode cX12_quarrels 146 = .ok (.iconst 0, 1) := by decide +kernel
theorem dX12_quarrels_147 : decode cX12_quarrels 147 = .ok (.putfield 36, 3) := by decide +kernel
theorem dX12_quarrels_150 : decode cX12_quarrels 150 = .ok (.iconst 0, 1) := by decide +kernel
theorem dX12_quarrels_151 : decode cX12_quarrels 151 = .ok (.istore_n 3, 1) := by decide +kernel
theorem dX12_quarrels_152 : decode cX12_quarrels 152 = .ok (.iload_n 3, 1) := by decide +kernel
theorem dX12_quarrels_153 : decode cX12_quarrels 153 = .ok (.iload_n 1, 1) := by decide +kernel
theorem dX12_quarrels_154 : decode cX12_quarrels 154 = .ok (.if_icmp .ge 40, 3) := by decide +kernel
theorem dX12_quarrels_157 : decode cX12_quarrels 157 = .ok (.iload_n 2, 1) := by decide +kernel
theorem dX12_quarrels_158 : decode cX12_quarrels 158 = .ok (.iload_n 3, 1) := by decide +kernel
theorem dX12_quarrels_159 : decode cX12_quarrels 159 = .ok (.ishr, 1) := by decide +kernel
theorem dX12_quarrels_160 : decode cX12_quarrels 160 = .ok (.iconst 1, 1) := by decide +kernel
theorem dX12_quarrels_161 : decode cX12_quarrels 161 = .ok (.iand, 1) := by decide +kernel
theorem dX12_quarrels_162 : decode cX12_quarrels 162 = .ok (.ifCond .ne 6, 3) := by decide +kernel
theorem dX12_quarrels_165 : decode cX12_quarrels 165 = .ok (.goto 23, 3) := by decide +kernel
theorem dX12_quarrels_168 : decode cX12_quarrels 168 = .ok (.aload_n 0, 1) := by decide +kernel
theorem dX12_quarrels_169 : decode cX12_quarrels 169 = .ok (.getfield 33, 3) := by decide +kernel
theorem dX12_quarrels_172 : decode cX12_quarrels 172 = .ok (.aload_n 0, 1) := by decide +kernel
theorem dX12_quarrels_173 : decode cX12_quarrels 173 = .ok (.getfield 36, 3) := by decide +kernel
theorem dX12_quarrels_176 : decode cX12_quarrels 176 = .ok (.iload_n 3, 1) := by decide +kernel
theorem dX12_quarrels_177 : decode cX12_quarrels 177 = .ok (.iastore, 1) := by decide +kernel
theorem dX12_quarrels_178 : decode cX12_quarrels 178 = .ok (.aload_n 0, 1) := by decide +kernel
theorem dX12_quarrels_179 : decode cX12_quarrels 179 = .ok (.dup, 1) := by decide +kernel
theorem dX12_quarrels_180 : decode cX12_quarrels 180 = .ok (.getfield 36, 3) := by decide +kernel
theorem dX12_quarrels_183 : decode cX12_quarrels 183 = .ok (.iconst 1, 1) := by decide +kernel
theorem dX12_quarrels_184 : decode cX12_quarrels 184 = .ok (.iadd, 1) := by decide +kernel
theorem dX12_quarrels_185 : decode cX12_quarrels 185 = .ok (.putfield 36, 3) := by decide +kernel
theorem dX12_quarrels_188 : decode cX12_quarrels 188 = .ok (.iinc 3 1, 3) := by decide +kernel
theorem dX12_quarrels_191 : decode cX12_quarrels 191 = .ok (.goto (-39), 3) := by decide +kernel
theorem dX12_quarrels_194 : decode cX12_quarrels 194 = .ok (.return_, 1) := by decide +kernel
theorem dX12_tell_0 : decode cX12_tell 0 = .ok (.aload_n 0, 1) := by decide +kernel
theorem dX12_tell_1 : decode cX12_tell 1 = .ok (.iconst 0, 1) := by decide +kernel
theorem dX12_tell_2 : decode cX12_tell 2 = .ok (.putfield 139, 3) := by decide +kernel
theorem dX12_tell_5 : decode cX12_tell 5 = .ok (.aload_n 0, 1) := by decide +kernel
theorem dX12_tell_6 : decode cX12_tell 6 = .ok (.iload_n 1, 1) := by decide +kernel
theorem dX12_tell_7 : decode cX12_tell 7 = .ok (.invokevirtual 217, 3) := by decide +kernel
theorem dX12_tell_10 : decode cX12_tell 10 = .ok (.ifCond .ne 5, 3) := by decide +kernel
theorem dX12_tell_13 : decode cX12_tell 13 = .ok (.iconst (-1), 1) := by decide +kernel
theorem dX12_tell_14 : decode cX12_tell 14 = .ok (.ireturn, 1) := by decide +kernel
theorem dX12_tell_15 : decode cX12_tell 15 = .ok (.aload_n 0, 1) := by decide +kernel
theorem dX12_tell_16 : decode cX12_tell 16 = .ok (.getfield 171, 3) := by decide +kernel
theorem dX12_tell_19 : decode cX12_tell 19 = .ok (.bipush 10, 2) := by decide +kernel
theorem dX12_tell_21 : decode cX12_tell 21 = .ok (.if_icmp .ne 6, 3) := by decide +kernel
theorem dX12_tell_24 : decode cX12_tell 24 = .ok (.bipush (-2), 2) := by decide +kernel
theorem dX12_tell_26 : decode cX12_tell 26 = .ok (.ireturn, 1) := by decide +kernel
theorem dX12_tell_27 : decode cX12_tell 27 = .ok (.iconst 0, 1) := by decide +kernel
theorem dX12_tell_28 : decode cX12_tell 28 = .ok (.istore_n 2, 1) := by decide +kernel
theorem dX12_tell_29 : decode cX12_tell 29 = .ok (.iload_n 2, 1) := by decide +kernel
theorem dX12_tell_30 : decode cX12_tell 30 = .ok (.aload_n 0, 1) := by decide +kernel
theorem dX12_tell_31 : decode cX12_tell 31 = .ok (.getfield 7, 3) := by decide +kernel
theorem dX12_tell_34 : decode cX12_tell 34 = .ok (.if_icmp .ge 28, 3) := by decide +kernel
theorem dX12_tell_37 : decode cX12_tell 37 = .ok (.aload_n 0, 1) := by decide +kernel
theorem dX12_tell_38 : decode cX12_tell 38 = .ok (.getfield 27, 3) := by decide +kernel
theorem dX12_tell_41 : decode cX12_tell 41 = .ok (.iconst 5, 1) := by decide +kernel
theorem dX12_tell_42 : decode cX12_tell 42 = .ok (.aload_n 0, 1) := by decide +kernel
theorem dX12_tell_43 : decode cX12_tell 43 = .ok (.getfield 171, 3) := by decide +kernel
theorem dX12_tell_46 : decode cX12_tell 46 = .ok (.imul, 1) := by decide +kernel
theorem dX12_tell_47 : decode cX12_tell 47 = .ok (.iload_n 2, 1) := by decide +kernel
theorem dX12_tell_48 : decode cX12_tell 48 = .ok (.iadd, 1) := by decide +kernel
theorem dX12_tell_49 : decode cX12_tell 49 = .ok (.aload_n 0, 1) := by decide +kernel
theorem dX12_tell_50 : decode cX12_tell 50 = .ok (.getfield 23, 3) := by decide +kernel
theorem dX12_tell_53 : decode cX12_tell 53 = .ok (.iload_n 2, 1) := by decide +kernel
theorem dX12_tell_54 : decode cX12_tell 54 = .ok (.iaload, 1) := by decide +kernel
theorem dX12_tell_55 : decode cX12_tell 55 = .ok (.iastore, 1) := by decide +kernel
theorem dX12_tell_56 : decode cX12_tell 56 = .ok (.iinc 2 1, 3) := by decide +kernel
theorem dX12_tell_59 : decode cX12_tell 59 = .ok (.goto (-30), 3) := by decide +kernel
theorem dX12_tell_62 : decode cX12_tell 62 = .ok (.aload_n 0, 1) := by decide +kernel
theorem dX12_tell_63 : decode cX12_tell 63 = .ok (.getfield 30, 3) := by decide +kernel
theorem dX12_tell_66 : decode cX12_tell 66 = .ok (.aload_n 0, 1) := by decide +kernel
theorem dX12_tell_67 : decode cX12_tell 67 = .ok (.getfield 171, 3) := by decide +kernel
theorem dX12_tell_70 : decode cX12_tell 70 = .ok (.iload_n 1, 1) := by decide +kernel
theorem dX12_tell_71 : decode cX12_tell 71 = .ok (.iastore, 1) := by decide +kernel
theorem dX12_tell_72 : decode cX12_tell 72 = .ok (.aload_n 0, 1) := by decide +kernel
theorem dX12_tell_73 : decode cX12_tell 73 = .ok (.dup, 1) := by decide +kernel
theorem dX12_tell_74 : decode cX12_tell 74 = .ok (.getfield 171, 3) := by decide +kernel
theorem dX12_tell_77 : decode cX12_tell 77 = .ok (.iconst 1, 1) := by decide +kernel
theorem dX12_tell_78 : decode cX12_tell 78 = .ok (.iadd, 1) := by decide +kernel
theorem dX12_tell_79 : decode cX12_tell 79 = .ok (.putfield 171, 3) := by decide +kernel
theorem dX12_tell_82 : decode cX12_tell 82 = .ok (.aload_n 0, 1) := by decide +kernel
theorem dX12_tell_83 : decode cX12_tell 83 = .ok (.invokevirtual 208, 3) := by decide +kernel
theorem dX12_tell_86 : decode cX12_tell 86 = .ok (.aload_n 0, 1) := by decide +kernel
theorem dX12_tell_87 : decode cX12_tell 87 = .ok (.getfield 164, 3) := by decide +kernel
theorem dX12_tell_90 : decode cX12_tell 90 = .ok (.ifCond .le 8, 3) := by decide +kernel
theorem dX12_tell_93 : decode cX12_tell 93 = .ok (.aload_n 0, 1) := by decide +kernel
theorem dX12_tell_94 : decode cX12_tell 94 = .ok (.getfield 164, 3) := by decide +kernel
theorem dX12_tell_97 : decode cX12_tell 97 = .ok (.ireturn, 1) := by decide +kernel
theorem dX12_tell_98 : decode cX12_tell 98 = .ok (.aload_n 0, 1) := by decide +kernel
theorem dX12_tell_99 : decode cX12_tell 99 = .ok (.aload_n 0, 1) := by decide +kernel
theorem dX12_tell_100 : decode cX12_tell 100 = .ok (.getfield 171, 3) := by decide +kernel
theorem dX12_tell_103 : decode cX12_tell 103 = .ok (.invokevirtual 220, 3) := by decide +kernel
theorem dX12_tell_106 : decode cX12_tell 106 = .ok (.aload_n 0, 1) := by decide +kernel
theorem dX12_tell_107 : decode cX12_tell 107 = .ok (.dup, 1) := by decide +kernel
theorem dX12_tell_108 : decode cX12_tell 108 = .ok (.getfield 171, 3) := by decide +kernel
theorem dX12_tell_111 : decode cX12_tell 111 = .ok (.iconst 1, 1) := by decide +kernel
theorem dX12_tell_112 : decode cX12_tell 112 = .ok (.isub, 1) := by decide +kernel
theorem dX12_tell_113 : decode cX12_tell 113 = .ok (.putfield 171, 3) := by decide +kernel
theorem dX12_tell_116 : decode cX12_tell 116 = .ok (.bipush (-4), 2) := by decide +kernel
theorem dX12_tell_118 : decode cX12_tell 118 = .ok (.ireturn, 1) := by decide +kernel
theorem dX12_undo_0 : decode cX12_undo 0 = .ok (.aload_n 0, 1) := by decide +kernel
theorem dX12_undo_1 : decode cX12_undo 1 = .ok (.iconst 0, 1) := by decide +kernel
theorem dX12_undo_2 : decode cX12_undo 2 = .ok (.putfield 139, 3) := by decide +kernel
theorem dX12_undo_5 : decode cX12_undo 5 = .ok (.aload_n 0, 1) := by decide +kernel
theorem dX12_undo_6 : decode cX12_undo 6 = .ok (.getfield 171, 3) := by decide +kernel
theorem dX12_undo_9 : decode cX12_undo 9 = .ok (.ifCond .ne 5, 3) := by decide +kernel
theorem dX12_undo_12 : decode cX12_undo 12 = .ok (.iconst (-1), 1) := by decide +kernel
theorem dX12_undo_13 : decode cX12_undo 13 = .ok (.ireturn, 1) := by decide +kernel
theorem dX12_undo_14 : decode cX12_undo 14 = .ok (.aload_n 0, 1) := by decide +kernel
theorem dX12_undo_15 : decode cX12_undo 15 = .ok (.dup, 1) := by decide +kernel
theorem dX12_undo_16 : decode cX12_undo 16 = .ok (.getfield 171, 3) := by decide +kernel
theorem dX12_undo_19 : decode cX12_undo 19 = .ok (.iconst 1, 1) := by decide +kernel
theorem dX12_undo_20 : decode cX12_undo 20 = .ok (.isub, 1) := by decide +kernel
theorem dX12_undo_21 : decode cX12_undo 21 = .ok (.putfield 171, 3) := by decide +kernel
theorem dX12_undo_24 : decode cX12_undo 24 = .ok (.aload_n 0, 1) := by decide +kernel
theorem dX12_undo_25 : decode cX12_undo 25 = .ok (.getfield 171, 3) := by decide +kernel
theorem dX12_undo_28 : decode cX12_undo 28 = .ok (.ireturn, 1) := by decide +kernel
theorem dX12_quarrel_0 : decode cX12_quarrel 0 = .ok (.aload_n 0, 1) := by decide +kernel
theorem dX12_quarrel_1 : decode cX12_quarrel 1 = .ok (.iconst 0, 1) := by decide +kernel
theorem dX12_quarrel_2 : decode cX12_quarrel 2 = .ok (.putfield 139, 3) := by decide +kernel
theorem dX12_quarrel_5 : decode cX12_quarrel 5 = .ok (.aload_n 0, 1) := by decide +kernel
theorem dX12_quarrel_6 : decode cX12_quarrel 6 = .ok (.getfield 36, 3) := by decide +kernel
theorem dX12_quarrel_9 : decode cX12_quarrel 9 = .ok (.ifCond .ge 5, 3) := by decide +kernel
theorem dX12_quarrel_12 : decode cX12_quarrel 12 = .ok (.iconst (-1), 1) := by decide +kernel
theorem dX12_quarrel_13 : decode cX12_quarrel 13 = .ok (.ireturn, 1) := by decide +kernel
theorem dX12_quarrel_14 : decode cX12_quarrel 14 = .ok (.iload_n 1, 1) := by decide +kernel
theorem dX12_quarrel_15 : decode cX12_quarrel 15 = .ok (.iconst (-1), 1) := by decide +kernel
theorem dX12_quarrel_16 : decode cX12_quarrel 16 = .ok (.if_icmp .ne 10, 3) := by decide +kernel
theorem dX12_quarrel_19 : decode cX12_quarrel 19 = .ok (.aload_n 0, 1) := by decide +kernel
theorem dX12_quarrel_20 : decode cX12_quarrel 20 = .ok (.getfield 36, 3) := by decide +kernel
theorem dX12_quarrel_23 : decode cX12_quarrel 23 = .ok (.goto 27, 3) := by decide +kernel
theorem dX12_quarrel_26 : decode cX12_quarrel 26 = .ok (.iload_n 1, 1) := by decide +kernel
theorem dX12_quarrel_27 : decode cX12_quarrel 27 = .ok (.iconst 0, 1) := by decide +kernel
theorem dX12_quarrel_28 : decode cX12_quarrel 28 = .ok (.aload_n 0, 1) := by decide +kernel
theorem dX12_quarrel_29 : decode cX12_quarrel 29 = .ok (.getfield 36, 3) := by decide +kernel
theorem dX12_quarrel_32 : decode cX12_quarrel 32 = .ok (.iconst 1, 1) := by decide +kernel
theorem dX12_quarrel_33 : decode cX12_quarrel 33 = .ok (.isub, 1) := by decide +kernel
theorem dX12_quarrel_34 : decode cX12_quarrel 34 = .ok (.invokestatic 142, 3) := by decide +kernel
theorem dX12_quarrel_37 : decode cX12_quarrel 37 = .ok (.ifCond .eq 12, 3) := by decide +kernel
theorem dX12_quarrel_40 : decode cX12_quarrel 40 = .ok (.aload_n 0, 1) := by decide +kernel
theorem dX12_quarrel_41 : decode cX12_quarrel 41 = .ok (.getfield 33, 3) := by decide +kernel
theorem dX12_quarrel_44 : decode cX12_quarrel 44 = .ok (.iload_n 1, 1) := by decide +kernel
theorem dX12_quarrel_45 : decode cX12_quarrel 45 = .ok (.iaload, 1) := by decide +kernel
theorem dX12_quarrel_46 : decode cX12_quarrel 46 = .ok (.goto 4, 3) := by decide +kernel
theorem dX12_quarrel_49 : decode cX12_quarrel 49 = .ok (.iconst (-1), 1) := by decide +kernel
theorem dX12_quarrel_50 : decode cX12_quarrel 50 = .ok (.ireturn, 1) := by decide +kernel
theorem dX12_turn_0 : decode cX12_turn 0 = .ok (.aload_n 0, 1) := by decide +kernel
theorem dX12_turn_1 : decode cX12_turn 1 = .ok (.iconst 0, 1) := by decide +kernel
theorem dX12_turn_2 : decode cX12_turn 2 = .ok (.putfield 139, 3) := by decide +kernel
theorem dX12_turn_5 : decode cX12_turn 5 = .ok (.iload_n 1, 1) := by decide +kernel
theorem dX12_turn_6 : decode cX12_turn 6 = .ok (.iconst 0, 1) := by decide +kernel
theorem dX12_turn_7 : decode cX12_turn 7 = .ok (.aload_n 0, 1) := by decide +kernel
theorem dX12_turn_8 : decode cX12_turn 8 = .ok (.getfield 171, 3) := by decide +kernel
theorem dX12_turn_11 : decode cX12_turn 11 = .ok (.iconst 1, 1) := by decide +kernel
theorem dX12_turn_12 : decode cX12_turn 12 = .ok (.isub, 1) := by decide +kernel
theorem dX12_turn_13 : decode cX12_turn 13 = .ok (.invokestatic 142, 3) := by decide +kernel
theorem dX12_turn_16 : decode cX12_turn 16 = .ok (.ifCond .ne 5, 3) := by decide +kernel
theorem dX12_turn_19 : decode cX12_turn 19 = .ok (.iconst (-1), 1) := by decide +kernel
theorem dX12_turn_20 : decode cX12_turn 20 = .ok (.ireturn, 1) := by decide +kernel
theorem dX12_turn_21 : decode cX12_turn 21 = .ok (.iload_n 2, 1) := by decide +kernel
theorem dX12_turn_22 : decode cX12_turn 22 = .ok (.ifCond .ne 10, 3) := by decide +kernel
theorem dX12_turn_25 : decode cX12_turn 25 = .ok (.aload_n 0, 1) := by decide +kernel
theorem dX12_turn_26 : decode cX12_turn 26 = .ok (.getfield 30, 3) := by decide +kernel
theorem dX12_turn_29 : decode cX12_turn 29 = .ok (.iload_n 1, 1) := by decide +kernel
theorem dX12_turn_30 : decode cX12_turn 30 = .ok (.iaload, 1) := by decide +kernel
theorem dX12_turn_31 : decode cX12_turn 31 = .ok (.ireturn, 1) := by decide +kernel
theorem dX12_turn_32 : decode cX12_turn 32 = .ok (.iload_n 2, 1) := by decide +kernel
theorem dX12_turn_33 : decode cX12_turn 33 = .ok (.iconst 1, 1) := by decide +kernel
theorem dX12_turn_34 : decode cX12_turn 34 = .ok (.aload_n 0, 1) := by decide +kernel
theorem dX12_turn_35 : decode cX12_turn 35 = .ok (.getfield 7, 3) := by decide +kernel
theorem dX12_turn_38 : decode cX12_turn 38 = .ok (.invokestatic 142, 3) := by decide +kernel
theorem dX12_turn_41 : decode cX12_turn 41 = .ok (.ifCond .eq 16, 3) := by decide +kernel
theorem dX12_turn_44 : decode cX12_turn 44 = .ok (.aload_n 0, 1) := by decide +kernel
theorem dX12_turn_45 : decode cX12_turn 45 = .ok (.getfield 27, 3) := by decide +kernel
theorem dX12_turn_48 : decode cX12_turn 48 = .ok (.iconst 5, 1) := by decide +kernel
theorem dX12_turn_49 : decode cX12_turn 49 = .ok (.iload_n 1, 1) := by decide +kernel
theorem dX12_turn_50 : decode cX12_turn 50 = .ok (.imul, 1) := by decide +kernel
theorem dX12_turn_51 : decode cX12_turn 51 = .ok (.iload_n 2, 1) := by decide +kernel
theorem dX12_turn_52 : decode cX12_turn 52 = .ok (.iadd, 1) := by decide +kernel
theorem dX12_turn_53 : decode cX12_turn 53 = .ok (.iconst 1, 1) := by decide +kernel
theorem dX12_turn_54 : decode cX12_turn 54 = .ok (.isub, 1) := by decide +kernel
theorem dX12_turn_55 : decode cX12_turn 55 = .ok (.iaload, 1) := by decide +kernel
theorem dX12_turn_56 : decode cX12_turn 56 = .ok (.ireturn, 1) := by decide +kernel
theorem dX12_turn_57 : decode cX12_turn 57 = .ok (.iload_n 2, 1) := by decide +kernel
theorem dX12_turn_58 : decode cX12_turn 58 = .ok (.bipush 6, 2) := by decide +kernel
theorem dX12_turn_60 : decode cX12_turn 60 = .ok (.if_icmp .eq 5, 3) := by decide +kernel
theorem dX12_turn_63 : decode cX12_turn 63 = .ok (.iconst (-1), 1) := by decide +kernel
theorem dX12_turn_64 : decode cX12_turn 64 = .ok (.ireturn, 1) := by decide +kernel
theorem dX12_turn_65 : decode cX12_turn 65 = .ok (.aload_n 0, 1) := by decide +kernel
theorem dX12_turn_66 : decode cX12_turn 66 = .ok (.invokevirtual 208, 3) := by decide +kernel
theorem dX12_turn_69 : decode cX12_turn 69 = .ok (.aload_n 0, 1) := by decide +kernel
theorem dX12_turn_70 : decode cX12_turn 70 = .ok (.iload_n 1, 1) := by decide +kernel
theorem dX12_turn_71 : decode cX12_turn 71 = .ok (.invokevirtual 156, 3) := by decide +kernel
theorem dX12_turn_74 : decode cX12_turn 74 = .ok (.iconst 0, 1) := by decide +kernel
theorem dX12_turn_75 : decode cX12_turn 75 = .ok (.istore_n 3, 1) := by decide +kernel
theorem dX12_turn_76 : decode cX12_turn 76 = .ok (.iconst 0, 1) := by decide +kernel
theorem dX12_turn_77 : decode cX12_turn 77 = .ok (.istore 4, 2) := by decide +kernel
theorem dX12_turn_79 : decode cX12_turn 79 = .ok (.iload 4, 2) := by decide +kernel
theorem dX12_turn_81 : decode cX12_turn 81 = .ok (.aload_n 0, 1) := by decide +kernel
theorem dX12_turn_82 : decode cX12_turn 82 = .ok (.getfield 164, 3) := by decide +kernel
theorem dX12_turn_85 : decode cX12_turn 85 = .ok (.if_icmp .ge 37, 3) := by decide +kernel
theorem dX12_turn_88 : decode cX12_turn 88 = .ok (.iload_n 3, 1) := by decide +kernel
theorem dX12_turn_89 : decode cX12_turn 89 = .ok (.aload_n 0, 1) := by decide +kernel
theorem dX12_turn_90 : decode cX12_turn 90 = .ok (.aload_n 0, 1) := by decide +kernel
theorem dX12_turn_91 : decode cX12_turn 91 = .ok (.getfield 42, 3) := by decide +kernel
theorem dX12_turn_94 : decode cX12_turn 94 = .ok (.iload 4, 2) := by decide +kernel
theorem dX12_turn_96 : decode cX12_turn 96 = .ok (.iaload, 1) := by decide +kernel
theorem dX12_turn_97 : decode cX12_turn 97 = .ok (.invokevirtual 160, 3) := by decide +kernel
theorem dX12_turn_100 : decode cX12_turn 100 = .ok (.aload_n 0, 1) := by decide +kernel
theorem dX12_turn_101 : decode cX12_turn 101 = .ok (.getfield 30, 3) := by decide +kernel
theorem dX12_turn_104 : decode cX12_turn 104 = .ok (.iload_n 1, 1) := by decide +kernel
theorem dX12_turn_105 : decode cX12_turn 105 = .ok (.iaload, 1) := by decide +kernel
theorem dX12_turn_106 : decode cX12_turn 106 = .ok (.if_icmp .eq 7, 3) := by decide +kernel
theorem dX12_turn_109 : decode cX12_turn 109 = .ok (.iconst 1, 1) := by decide +kernel
theorem dX12_turn_110 : decode cX12_turn 110 = .ok (.goto 4, 3) := by decide +kernel
theorem dX12_turn_113 : decode cX12_turn 113 = .ok (.iconst 0, 1) := by decide +kernel
theorem dX12_turn_114 : decode cX12_turn 114 = .ok (.iadd, 1) := by decide +kernel
theorem dX12_turn_115 : decode cX12_turn 115 = .ok (.istore_n 3, 1) := by decide +kernel
theorem dX12_turn_116 : decode cX12_turn 116 = .ok (.iinc 4 1, 3) := by decide +kernel
theorem dX12_turn_119 : decode cX12_turn 119 = .ok (.goto (-40), 3) := by decide +kernel
theorem dX12_turn_122 : decode cX12_turn 122 = .ok (.iload_n 3, 1) := by decide +kernel
theorem dX12_turn_123 : decode cX12_turn 123 = .ok (.ireturn, 1) := by decide +kernel
theorem dX12_left_0 : decode cX12_left 0 = .ok (.aload_n 0, 1) := by decide +kernel
theorem dX12_left_1 : decode cX12_left 1 = .ok (.iconst 0, 1) := by decide +kernel
theorem dX12_left_2 : decode cX12_left 2 = .ok (.putfield 139, 3) := by decide +kernel
theorem dX12_left_5 : decode cX12_left 5 = .ok (.aload_n 0, 1) := by decide +kernel
theorem dX12_left_6 : decode cX12_left 6 = .ok (.invokevirtual 208, 3) := by decide +kernel
theorem dX12_left_9 : decode cX12_left 9 = .ok (.iload_n 1, 1) := by decide +kernel
theorem dX12_left_10 : decode cX12_left 10 = .ok (.iconst 0, 1) := by decide +kernel
theorem dX12_left_11 : decode cX12_left 11 = .ok (.aload_n 0, 1) := by decide +kernel
theorem dX12_left_12 : decode cX12_left 12 = .ok (.getfield 164, 3) := by decide +kernel
theorem dX12_left_15 : decode cX12_left 15 = .ok (.iconst 1, 1) := by decide +kernel
theorem dX12_left_16 : decode cX12_left 16 = .ok (.isub, 1) := by decide +kernel
theorem dX12_left_17 : decode cX12_left 17 = .ok (.invokestatic 142, 3) := by decide +kernel
theorem dX12_left_20 : decode cX12_left 20 = .ok (.ifCond .eq 12, 3) := by decide +kernel
theorem dX12_left_23 : decode cX12_left 23 = .ok (.aload_n 0, 1) := by decide +kernel
theorem dX12_left_24 : decode cX12_left 24 = .ok (.getfield 42, 3) := by decide +kernel
theorem dX12_left_27 : decode cX12_left 27 = .ok (.iload_n 1, 1) := by decide +kernel
theorem dX12_left_28 : decode cX12_left 28 = .ok (.iaload, 1) := by decide +kernel
theorem dX12_left_29 : decode cX12_left 29 = .ok (.goto 4, 3) := by decide +kernel
theorem dX12_left_32 : decode cX12_left 32 = .ok (.iconst (-1), 1) := by decide +kernel
theorem dX12_left_33 : decode cX12_left 33 = .ok (.ireturn, 1) := by decide +kernel
theorem dX12_falses_0 : decode cX12_falses 0 = .ok (.aload_n 0, 1) := by decide +kernel
theorem dX12_falses_1 : decode cX12_falses 1 = .ok (.iconst 0, 1) := by decide +kernel
theorem dX12_falses_2 : decode cX12_falses 2 = .ok (.putfield 139, 3) := by decide +kernel
theorem dX12_falses_5 : decode cX12_falses 5 = .ok (.aload_n 0, 1) := by decide +kernel
theorem dX12_falses_6 : decode cX12_falses 6 = .ok (.iload_n 1, 1) := by decide +kernel
theorem dX12_falses_7 : decode cX12_falses 7 = .ok (.invokevirtual 199, 3) := by decide +kernel
theorem dX12_falses_10 : decode cX12_falses 10 = .ok (.ifCond .eq 18, 3) := by decide +kernel
theorem dX12_falses_13 : decode cX12_falses 13 = .ok (.aload_n 0, 1) := by decide +kernel
theorem dX12_falses_14 : decode cX12_falses 14 = .ok (.iload_n 1, 1) := by decide +kernel
theorem dX12_falses_15 : decode cX12_falses 15 = .ok (.aload_n 0, 1) := by decide +kernel
theorem dX12_falses_16 : decode cX12_falses 16 = .ok (.getfield 171, 3) := by decide +kernel
theorem dX12_falses_19 : decode cX12_falses 19 = .ok (.invokevirtual 174, 3) := by decide +kernel
theorem dX12_falses_22 : decode cX12_falses 22 = .ok (.invokestatic 177, 3) := by decide +kernel
theorem dX12_falses_25 : decode cX12_falses 25 = .ok (.goto 4, 3) := by decide +kernel
theorem dX12_falses_28 : decode cX12_falses 28 = .ok (.iconst (-1), 1) := by decide +kernel
theorem dX12_falses_29 : decode cX12_falses 29 = .ok (.ireturn, 1) := by decide +kernel
theorem dX12_partsOf_0 : decode cX12_partsOf 0 = .ok (.iconst 0, 1) := by decide +kernel
theorem dX12_partsOf_1 : decode cX12_partsOf 1 = .ok (.istore_n 1, 1) := by decide +kernel
theorem dX12_partsOf_2 : decode cX12_partsOf 2 = .ok (.iload_n 1, 1) := by decide +kernel
theorem dX12_partsOf_3 : decode cX12_partsOf 3 = .ok (.bipush 60, 2) := by decide +kernel
theorem dX12_partsOf_5 : decode cX12_partsOf 5 = .ok (.if_icmp .ge 16, 3) := by decide +kernel
theorem dX12_partsOf_8 : decode cX12_partsOf 8 = .ok (.aload_n 0, 1) := by decide +kernel
theorem dX12_partsOf_9 : decode cX12_partsOf 9 = .ok (.getfield 48, 3) := by decide +kernel
theorem dX12_partsOf_12 : decode cX12_partsOf 12 = .ok (.iload_n 1, 1) := by decide +kernel
theorem dX12_partsOf_13 : decode cX12_partsOf 13 = .ok (.iconst 0, 1) := by decide +kernel
theorem dX12_partsOf_14 : decode cX12_partsOf 14 = .ok (.iastore, 1) := by decide +kernel
theorem dX12_partsOf_15 : decode cX12_partsOf 15 = .ok (.iinc 1 1, 3) := by decide +kernel
theorem dX12_partsOf_18 : decode cX12_partsOf 18 = .ok (.goto (-16), 3) := by decide +kernel
theorem dX12_partsOf_21 : decode cX12_partsOf 21 = .ok (.iconst 0, 1) := by decide +kernel
theorem dX12_partsOf_22 : decode cX12_partsOf 22 = .ok (.istore_n 1, 1) := by decide +kernel
theorem dX12_partsOf_23 : decode cX12_partsOf 23 = .ok (.iload_n 1, 1) := by decide +kernel
theorem dX12_partsOf_24 : decode cX12_partsOf 24 = .ok (.aload_n 0, 1) := by decide +kernel
theorem dX12_partsOf_25 : decode cX12_partsOf 25 = .ok (.getfield 164, 3) := by decide +kernel
theorem dX12_partsOf_28 : decode cX12_partsOf 28 = .ok (.if_icmp .ge 28, 3) := by decide +kernel
theorem dX12_partsOf_31 : decode cX12_partsOf 31 = .ok (.aload_n 0, 1) := by decide +kernel
theorem dX12_partsOf_32 : decode cX12_partsOf 32 = .ok (.getfield 48, 3) := by decide +kernel
theorem dX12_partsOf_35 : decode cX12_partsOf 35 = .ok (.aload_n 0, 1) := by decide +kernel
theorem dX12_partsOf_36 : decode cX12_partsOf 36 = .ok (.aload_n 0, 1) := by decide +kernel
theorem dX12_partsOf_37 : decode cX12_partsOf 37 = .ok (.getfield 42, 3) := by decide +kernel
theorem dX12_partsOf_40 : decode cX12_partsOf 40 = .ok (.iload_n 1, 1) := by decide +kernel
theorem dX12_partsOf_41 : decode cX12_partsOf 41 = .ok (.iaload, 1) := by decide +kernel
theorem dX12_partsOf_42 : decode cX12_partsOf 42 = .ok (.invokevirtual 160, 3) := by decide +kernel
theorem dX12_partsOf_45 : decode cX12_partsOf 45 = .ok (.dup2, 1) := by decide +kernel
theorem dX12_partsOf_46 : decode cX12_partsOf 46 = .ok (.iaload, 1) := by decide +kernel
theorem dX12_partsOf_47 : decode cX12_partsOf 47 = .ok (.iconst 1, 1) := by decide +kernel
theorem dX12_partsOf_48 : decode cX12_partsOf 48 = .ok (.iadd, 1) := by decide +kernel
theorem dX12_partsOf_49 : decode cX12_partsOf 49 = .ok (.iastore, 1) := by decide +kernel
theorem dX12_partsOf_50 : decode cX12_partsOf 50 = .ok (.iinc 1 1, 3) := by decide +kernel
theorem dX12_partsOf_53 : decode cX12_partsOf 53 = .ok (.goto (-30), 3) := by decide +kernel
theorem dX12_partsOf_56 : decode cX12_partsOf 56 = .ok (.iconst 0, 1) := by decide +kernel
theorem dX12_partsOf_57 : decode cX12_partsOf 57 = .ok (.istore_n 1, 1) := by decide +kernel
theorem dX12_partsOf_58 : decode cX12_partsOf 58 = .ok (.iconst 0, 1) := by decide +kernel
theorem dX12_partsOf_59 : decode cX12_partsOf 59 = .ok (.istore_n 2, 1) := by decide +kernel
theorem dX12_partsOf_60 : decode cX12_partsOf 60 = .ok (.iload_n 2, 1) := by decide +kernel
theorem dX12_partsOf_61 : decode cX12_partsOf 61 = .ok (.bipush 60, 2) := by decide +kernel
theorem dX12_partsOf_63 : decode cX12_partsOf 63 = .ok (.if_icmp .ge 26, 3) := by decide +kernel
theorem dX12_partsOf_66 : decode cX12_partsOf 66 = .ok (.iload_n 1, 1) := by decide +kernel
theorem dX12_partsOf_67 : decode cX12_partsOf 67 = .ok (.aload_n 0, 1) := by decide +kernel
theorem dX12_partsOf_68 : decode cX12_partsOf 68 = .ok (.getfield 48, 3) := by decide +kernel
theorem dX12_partsOf_71 : decode cX12_partsOf 71 = .ok (.iload_n 2, 1) := by decide +kernel
theorem dX12_partsOf_72 : decode cX12_partsOf 72 = .ok (.iaload, 1) := by decide +kernel
theorem dX12_partsOf_73 : decode cX12_partsOf 73 = .ok (.ifCond .le 7, 3) := by decide +kernel
theorem dX12_partsOf_76 : decode cX12_partsOf 76 = .ok (.iconst 1, 1) := by decide +kernel
theorem dX12_partsOf_77 : decode cX12_partsOf 77 = .ok (.goto 4, 3) := by decide +kernel
theorem dX12_partsOf_80 : decode cX12_partsOf 80 = .ok (.iconst 0, 1) := by decide +kernel
theorem dX12_partsOf_81 : decode cX12_partsOf 81 = .ok (.iadd, 1) := by decide +kernel
theorem dX12_partsOf_82 : decode cX12_partsOf 82 = .ok (.istore_n 1, 1) := by decide +kernel
theorem dX12_partsOf_83 : decode cX12_partsOf 83 = .ok (.iinc 2 1, 3) := by decide +kernel
theorem dX12_partsOf_86 : decode cX12_partsOf 86 = .ok (.goto (-26), 3) := by decide +kernel
theorem dX12_partsOf_89 : decode cX12_partsOf 89 = .ok (.iload_n 1, 1) := by decide +kernel
theorem dX12_partsOf_90 : decode cX12_partsOf 90 = .ok (.ireturn, 1) := by decide +kernel
theorem dX12_part_0 : decode cX12_part 0 = .ok (.aload_n 0, 1) := by decide +kernel
theorem dX12_part_1 : decode cX12_part 1 = .ok (.iconst 0, 1) := by decide +kernel
theorem dX12_part_2 : decode cX12_part 2 = .ok (.putfield 139, 3) := by decide +kernel
theorem dX12_part_5 : decode cX12_part 5 = .ok (.aload_n 0, 1) := by decide +kernel
theorem dX12_part_6 : decode cX12_part 6 = .ok (.invokevirtual 208, 3) := by decide +kernel
theorem dX12_part_9 : decode cX12_part 9 = .ok (.aload_n 0, 1) := by decide +kernel
theorem dX12_part_10 : decode cX12_part 10 = .ok (.invokevirtual 211, 3) := by decide +kernel
theorem dX12_part_13 : decode cX12_part 13 = .ok (.iload_n 1, 1) := by decide +kernel
theorem dX12_part_14 : decode cX12_part 14 = .ok (.iconst 0, 1) := by decide +kernel
theorem dX12_part_15 : decode cX12_part 15 = .ok (.aload_n 0, 1) := by decide +kernel
theorem dX12_part_16 : decode cX12_part 16 = .ok (.invokevirtual 223, 3) := by decide +kernel
theorem dX12_part_19 : decode cX12_part 19 = .ok (.iconst 1, 1) := by decide +kernel
theorem dX12_part_20 : decode cX12_part 20 = .ok (.isub, 1) := by decide +kernel
theorem dX12_part_21 : decode cX12_part 21 = .ok (.invokestatic 142, 3) := by decide +kernel
theorem dX12_part_24 : decode cX12_part 24 = .ok (.ifCond .eq 12, 3) := by decide +kernel
theorem dX12_part_27 : decode cX12_part 27 = .ok (.iload_n 2, 1) := by decide +kernel
theorem dX12_part_28 : decode cX12_part 28 = .ok (.iconst 0, 1) := by decide +kernel
theorem dX12_part_29 : decode cX12_part 29 = .ok (.iconst 1, 1) := by decide +kernel
theorem dX12_part_30 : decode cX12_part 30 = .ok (.invokestatic 142, 3) := by decide +kernel
theorem dX12_part_33 : decode cX12_part 33 = .ok (.ifCond .ne 5, 3) := by decide +kernel
theorem dX12_part_36 : decode cX12_part 36 = .ok (.iconst (-1), 1) := by decide +kernel
theorem dX12_part_37 : decode cX12_part 37 = .ok (.ireturn, 1) := by decide +kernel
theorem dX12_part_38 : decode cX12_part 38 = .ok (.iconst (-1), 1) := by decide +kernel
theorem dX12_part_39 : decode cX12_part 39 = .ok (.istore_n 3, 1) := by decide +kernel
theorem dX12_part_40 : decode cX12_part 40 = .ok (.iconst (-1), 1) := by decide +kernel
theorem dX12_part_41 : decode cX12_part 41 = .ok (.istore 4, 2) := by decide +kernel
theorem dX12_part_43 : decode cX12_part 43 = .ok (.iload_n 3, 1) := by decide +kernel
theorem dX12_part_44 : decode cX12_part 44 = .ok (.iload_n 1, 1) := by decide +kernel
theorem dX12_part_45 : decode cX12_part 45 = .ok (.if_icmp .ge 27, 3) := by decide +kernel
theorem dX12_part_48 : decode cX12_part 48 = .ok (.iinc 4 1, 3) := by decide +kernel
theorem dX12_part_51 : decode cX12_part 51 = .ok (.iload_n 3, 1) := by decide +kernel
theorem dX12_part_52 : decode cX12_part 52 = .ok (.aload_n 0, 1) := by decide +kernel
theorem dX12_part_53 : decode cX12_part 53 = .ok (.getfield 48, 3) := by decide +kernel
theorem dX12_part_56 : decode cX12_part 56 = .ok (.iload 4, 2) := by decide +kernel
theorem dX12_part_58 : decode cX12_part 58 = .ok (.iaload, 1) := by decide +kernel
theorem dX12_part_59 : decode cX12_part 59 = .ok (.ifCond .le 7, 3) := by decide +kernel
theorem dX12_part_62 : decode cX12_part 62 = .ok (.iconst 1, 1) := by decide +kernel
theorem dX12_part_63 : decode cX12_part 63 = .ok (.goto 4, 3) := by decide +kernel
theorem dX12_part_66 : decode cX12_part 66 = .ok (.iconst 0, 1) := by decide +kernel
theorem dX12_part_67 : decode cX12_part 67 = .ok (.iadd, 1) := by decide +kernel
theorem dX12_part_68 : decode cX12_part 68 = .ok (.istore_n 3, 1) := by decide +kernel
theorem dX12_part_69 : decode cX12_part 69 = .ok (.goto (-26), 3) := by decide +kernel
theorem dX12_part_72 : decode cX12_part 72 = .ok (.iload_n 2, 1) := by decide +kernel
theorem dX12_part_73 : decode cX12_part 73 = .ok (.ifCond .ne 8, 3) := by decide +kernel
theorem dX12_part_76 : decode cX12_part 76 = .ok (.iload 4, 2) := by decide +kernel
theorem dX12_part_78 : decode cX12_part 78 = .ok (.goto 10, 3) := by decide +kernel
theorem dX12_part_81 : decode cX12_part 81 = .ok (.aload_n 0, 1) := by decide +kernel
theorem dX12_part_82 : decode cX12_part 82 = .ok (.getfield 48, 3) := by decide +kernel
theorem dX12_part_85 : decode cX12_part 85 = .ok (.iload 4, 2) := by decide +kernel
theorem dX12_part_87 : decode cX12_part 87 = .ok (.iaload, 1) := by decide +kernel
theorem dX12_part_88 : decode cX12_part 88 = .ok (.ireturn, 1) := by decide +kernel
theorem dX12_among_0 : decode cX12_among 0 = .ok (.aload_n 0, 1) := by decide +kernel
theorem dX12_among_1 : decode cX12_among 1 = .ok (.iconst 0, 1) := by decide +kernel
theorem dX12_among_2 : decode cX12_among 2 = .ok (.putfield 139, 3) := by decide +kernel
theorem dX12_among_5 : decode cX12_among 5 = .ok (.iload_n 1, 1) := by decide +kernel
theorem dX12_among_6 : decode cX12_among 6 = .ok (.iconst 0, 1) := by decide +kernel
theorem dX12_among_7 : decode cX12_among 7 = .ok (.iconst 3, 1) := by decide +kernel
theorem dX12_among_8 : decode cX12_among 8 = .ok (.invokestatic 142, 3) := by decide +kernel
theorem dX12_among_11 : decode cX12_among 11 = .ok (.ifCond .ne 5, 3) := by decide +kernel
theorem dX12_among_14 : decode cX12_among 14 = .ok (.iconst (-1), 1) := by decide +kernel
theorem dX12_among_15 : decode cX12_among 15 = .ok (.ireturn, 1) := by decide +kernel
theorem dX12_among_16 : decode cX12_among 16 = .ok (.aload_n 0, 1) := by decide +kernel
theorem dX12_among_17 : decode cX12_among 17 = .ok (.invokevirtual 208, 3) := by decide +kernel
theorem dX12_among_20 : decode cX12_among 20 = .ok (.aload_n 0, 1) := by decide +kernel
theorem dX12_among_21 : decode cX12_among 21 = .ok (.getfield 164, 3) := by decide +kernel
theorem dX12_among_24 : decode cX12_among 24 = .ok (.ifCond .ne 14, 3) := by decide +kernel
theorem dX12_among_27 : decode cX12_among 27 = .ok (.iload_n 1, 1) := by decide +kernel
theorem dX12_among_28 : decode cX12_among 28 = .ok (.iconst 2, 1) := by decide +kernel
theorem dX12_among_29 : decode cX12_among 29 = .ok (.if_icmp .ge 7, 3) := by decide +kernel
theorem dX12_among_32 : decode cX12_among 32 = .ok (.iconst 0, 1) := by decide +kernel
theorem dX12_among_33 : decode cX12_among 33 = .ok (.goto 4, 3) := by decide +kernel
theorem dX12_among_36 : decode cX12_among 36 = .ok (.iconst (-1), 1) := by decide +kernel
theorem dX12_among_37 : decode cX12_among 37 = .ok (.ireturn, 1) := by decide +kernel
theorem dX12_among_38 : decode cX12_among 38 = .ok (.aload_n 0, 1) := by decide +kernel
theorem dX12_among_39 : decode cX12_among 39 = .ok (.getfield 16, 3) := by decide +kernel
theorem dX12_among_42 : decode cX12_among 42 = .ok (.aload_n 0, 1) := by decide +kernel
theorem dX12_among_43 : decode cX12_among 43 = .ok (.getfield 164, 3) := by decide +kernel
theorem dX12_among_46 : decode cX12_among 46 = .ok (.imul, 1) := by decide +kernel
theorem dX12_among_47 : decode cX12_among 47 = .ok (.ldc 226, 2) := by decide +kernel
theorem dX12_among_49 : decode cX12_among 49 = .ok (.if_icmp .le 6, 3) := by decide +kernel
theorem dX12_among_52 : decode cX12_among 52 = .ok (.bipush (-5), 2) := by decide +kernel
theorem dX12_among_54 : decode cX12_among 54 = .ok (.ireturn, 1) := by decide +kernel
theorem dX12_among_55 : decode cX12_among 55 = .ok (.ldc 227, 2) := by decide +kernel
theorem dX12_among_57 : decode cX12_among 57 = .ok (.istore_n 2, 1) := by decide +kernel
theorem dX12_among_58 : decode cX12_among 58 = .ok (.iconst 0, 1) := by decide +kernel
theorem dX12_among_59 : decode cX12_among 59 = .ok (.istore_n 3, 1) := by decide +kernel
theorem dX12_among_60 : decode cX12_among 60 = .ok (.iconst (-1), 1) := by decide +kernel
theorem dX12_among_61 : decode cX12_among 61 = .ok (.istore 4, 2) := by decide +kernel
theorem dX12_among_63 : decode cX12_among 63 = .ok (.iconst (-1), 1) := by decide +kernel
theorem dX12_among_64 : decode cX12_among 64 = .ok (.istore 5, 2) := by decide +kernel
theorem dX12_among_66 : decode cX12_among 66 = .ok (.iconst 0, 1) := by decide +kernel
theorem dX12_among_67 : decode cX12_among 67 = .ok (.istore 6, 2) := by decide +kernel
theorem dX12_among_69 : decode cX12_among 69 = .ok (.iload 6, 2) := by decide +kernel
theorem dX12_among_71 : decode cX12_among 71 = .ok (.aload_n 0, 1) := by decide +kernel
theorem dX12_among_72 : decode cX12_among 72 = .ok (.getfield 16, 3) := by decide +kernel
theorem dX12_among_75 : decode cX12_among 75 = .ok (.if_icmp .ge 92, 3) := by decide +kernel
theorem dX12_among_78 : decode cX12_among 78 = .ok (.aload_n 0, 1) := by decide +kernel
theorem dX12_among_79 : decode cX12_among 79 = .ok (.iload 6, 2) := by decide +kernel
theorem dX12_among_81 : decode cX12_among 81 = .ok (.invokevirtual 214, 3) := by decide +kernel
theorem dX12_among_84 : decode cX12_among 84 = .ok (.aload_n 0, 1) := by decide +kernel
theorem dX12_among_85 : decode cX12_among 85 = .ok (.invokevirtual 223, 3) := by decide +kernel
theorem dX12_among_88 : decode cX12_among 88 = .ok (.istore 7, 2) := by decide +kernel
theorem dX12_among_90 : decode cX12_among 90 = .ok (.iconst 0, 1) := by decide +kernel
theorem dX12_among_91 : decode cX12_among 91 = .ok (.istore 8, 2) := by decide +kernel
theorem dX12_among_93 : decode cX12_among 93 = .ok (.iconst 0, 1) := by decide +kernel
theorem dX12_among_94 : decode cX12_among 94 = .ok (.istore 9, 2) := by decide +kernel
theorem dX12_among_96 : decode cX12_among 96 = .ok (.iload 9, 2) := by decide +kernel
theorem dX12_among_98 : decode cX12_among 98 = .ok (.bipush 60, 2) := by decide +kernel
theorem dX12_among_100 : decode cX12_among 100 = .ok (.if_icmp .ge 35, 3) := by decide +kernel
theorem dX12_among_103 : decode cX12_among 103 = .ok (.aload_n 0, 1) := by decide +kernel
theorem dX12_among_104 : decode cX12_among 104 = .ok (.getfield 48, 3) := by decide +kernel
theorem dX12_among_107 : decode cX12_among 107 = .ok (.iload 9, 2) := by decide +kernel
theorem dX12_among_109 : decode cX12_among 109 = .ok (.iaload, 1) := by decide +kernel
theorem dX12_among_110 : decode cX12_among 110 = .ok (.iload 8, 2) := by decide +kernel
theorem dX12_among_112 : decode cX12_among 112 = .ok (.if_icmp .le 13, 3) := by decide +kernel
theorem dX12_among_115 : decode cX12_among 115 = .ok (.aload_n 0, 1) := by decide +kernel
theorem dX12_among_116 : decode cX12_among 116 = .ok (.getfield 48, 3) := by decide +kernel
theorem dX12_among_119 : decode cX12_among 119 = .ok (.iload 9, 2) := by decide +kernel
theorem dX12_among_121 : decode cX12_among 121 = .ok (.iaload, 1) := by decide +kernel
theorem dX12_among_122 : decode cX12_among 122 = .ok (.goto 5, 3) := by decide +kernel
theorem dX12_among_125 : decode cX12_among 125 = .ok (.iload 8, 2) := by decide +kernel
theorem dX12_among_127 : decode cX12_among 127 = .ok (.istore 8, 2) := by decide +kernel
theorem dX12_among_129 : decode cX12_among 129 = .ok (.iinc 9 1, 3) := by decide +kernel
theorem dX12_among_132 : decode cX12_among 132 = .ok (.goto (-36), 3) := by decide +kernel
theorem dX12_among_135 : decode cX12_among 135 = .ok (.iload 8, 2) := by decide +kernel
theorem dX12_among_137 : decode cX12_among 137 = .ok (.iload_n 2, 1) := by decide +kernel
theorem dX12_among_138 : decode cX12_among 138 = .ok (.if_icmp .ge 10, 3) := by decide +kernel
theorem dX12_among_141 : decode cX12_among 141 = .ok (.iload 8, 2) := by decide +kernel
theorem dX12_among_143 : decode cX12_among 143 = .ok (.istore_n 2, 1) := by decide +kernel
theorem dX12_among_144 : decode cX12_among 144 = .ok (.iload 6, 2) := by decide +kernel
theorem dX12_among_146 : decode cX12_among 146 = .ok (.istore 4, 2) := by decide +kernel
theorem dX12_among_148 : decode cX12_among 148 = .ok (.iload 7, 2) := by decide +kernel
theorem dX12_among_150 : decode cX12_among 150 = .ok (.iload_n 3, 1) := by decide +kernel
theorem dX12_among_151 : decode cX12_among 151 = .ok (.if_icmp .le 10, 3) := by decide +kernel
theorem dX12_among_154 : decode cX12_among 154 = .ok (.iload 7, 2) := by decide +kernel
theorem dX12_among_156 : decode cX12_among 156 = .ok (.istore_n 3, 1) := by decide +kernel
theorem dX12_among_157 : decode cX12_among 157 = .ok (.iload 6, 2) := by decide +kernel
theorem dX12_among_159 : decode cX12_among 159 = .ok (.istore 5, 2) := by decide +kernel
theorem dX12_among_161 : decode cX12_among 161 = .ok (.iinc 6 1, 3) := by decide +kernel
theorem dX12_among_164 : decode cX12_among 164 = .ok (.goto (-95), 3) := by decide +kernel
theorem dX12_among_167 : decode cX12_among 167 = .ok (.iload_n 1, 1) := by decide +kernel
theorem dX12_among_168 : decode cX12_among 168 = .ok (.ifCond .ne 7, 3) := by decide +kernel
theorem dX12_among_171 : decode cX12_among 171 = .ok (.iload_n 2, 1) := by decide +kernel
theorem dX12_among_172 : decode cX12_among 172 = .ok (.goto 24, 3) := by decide +kernel
theorem dX12_among_175 : decode cX12_among 175 = .ok (.iload_n 1, 1) := by decide +kernel
theorem dX12_among_176 : decode cX12_among 176 = .ok (.iconst 1, 1) := by decide +kernel
theorem dX12_among_177 : decode cX12_among 177 = .ok (.if_icmp .ne 7, 3) := by decide +kernel
theorem dX12_among_180 : decode cX12_among 180 = .ok (.iload_n 3, 1) := by decide +kernel
theorem dX12_among_181 : decode cX12_among 181 = .ok (.goto 15, 3) := by decide +kernel
theorem dX12_among_184 : decode cX12_among 184 = .ok (.iload_n 1, 1) := by decide +kernel
theorem dX12_among_185 : decode cX12_among 185 = .ok (.iconst 2, 1) := by decide +kernel
theorem dX12_among_186 : decode cX12_among 186 = .ok (.if_icmp .ne 8, 3) := by decide +kernel
theorem dX12_among_189 : decode cX12_among 189 = .ok (.iload 4, 2) := by decide +kernel
theorem dX12_among_191 : decode cX12_among 191 = .ok (.goto 5, 3) := by decide +kernel
theorem dX12_among_194 : decode cX12_among 194 = .ok (.iload 5, 2) := by decide +kernel
theorem dX12_among_196 : decode cX12_among 196 = .ok (.ireturn, 1) := by decide +kernel
theorem dX12_order_0 : decode cX12_order 0 = .ok (.iload_n 2, 1) := by decide +kernel
theorem dX12_order_1 : decode cX12_order 1 = .ok (.istore_n 3, 1) := by decide +kernel
theorem dX12_order_2 : decode cX12_order 2 = .ok (.iconst 0, 1) := by decide +kernel
theorem dX12_order_3 : decode cX12_order 3 = .ok (.istore 4, 2) := by decide +kernel
theorem dX12_order_5 : decode cX12_order 5 = .ok (.iload 4, 2) := by decide +kernel
theorem dX12_order_7 : decode cX12_order 7 = .ok (.iload_n 1, 1) := by decide +kernel
theorem dX12_order_8 : decode cX12_order 8 = .ok (.if_icmp .ge 120, 3) := by decide +kernel
theorem dX12_order_11 : decode cX12_order 11 = .ok (.iload_n 1, 1) := by decide +kernel
theorem dX12_order_12 : decode cX12_order 12 = .ok (.iload 4, 2) := by decide +kernel
theorem dX12_order_14 : decode cX12_order 14 = .ok (.isub, 1) := by decide +kernel
theorem dX12_order_15 : decode cX12_order 15 = .ok (.istore 5, 2) := by decide +kernel
theorem dX12_order_17 : decode cX12_order 17 = .ok (.iconst 1, 1) := by decide +kernel
theorem dX12_order_18 : decode cX12_order 18 = .ok (.istore 6, 2) := by decide +kernel
theorem dX12_order_20 : decode cX12_order 20 = .ok (.iconst 2, 1) := by decide +kernel
theorem dX12_order_21 : decode cX12_order 21 = .ok (.istore 7, 2) := by decide +kernel
theorem dX12_order_23 : decode cX12_order 23 = .ok (.iload 7, 2) := by decide +kernel
theorem dX12_order_25 : decode cX12_order 25 = .ok (.iload 5, 2) := by decide +kernel
theorem dX12_order_27 : decode cX12_order 27 = .ok (.if_icmp .ge 16, 3) := by decide +kernel
theorem dX12_order_30 : decode cX12_order 30 = .ok (.iload 6, 2) := by decide +kernel
theorem dX12_order_32 : decode cX12_order 32 = .ok (.iload 7, 2) := by decide +kernel
theorem dX12_order_34 : decode cX12_order 34 = .ok (.imul, 1) := by decide +kernel
theorem dX12_order_35 : decode cX12_order 35 = .ok (.istore 6, 2) := by decide +kernel
theorem dX12_order_37 : decode cX12_order 37 = .ok (.iinc 7 1, 3) := by decide +kernel
theorem dX12_order_40 : decode cX12_order 40 = .ok (.goto (-17), 3) := by decide +kernel
theorem dX12_order_43 : decode cX12_order 43 = .ok (.iload_n 3, 1) := by decide +kernel
theorem dX12_order_44 : decode cX12_order 44 = .ok (.iload 6, 2) := by decide +kernel
theorem dX12_order_46 : decode cX12_order 46 = .ok (.idiv, 1) := by decide +kernel
theorem dX12_order_47 : decode cX12_order 47 = .ok (.istore 7, 2) := by decide +kernel
theorem dX12_order_49 : decode cX12_order 49 = .ok (.iload_n 3, 1) := by decide +kernel
theorem dX12_order_50 : decode cX12_order 50 = .ok (.iload 6, 2) := by decide +kernel
theorem dX12_order_52 : decode cX12_order 52 = .ok (.irem, 1) := by decide +kernel
theorem dX12_order_53 : decode cX12_order 53 = .ok (.istore_n 3, 1) := by decide +kernel
theorem dX12_order_54 : decode cX12_order 54 = .ok (.iconst (-1), 1) := by decide +kernel
theorem dX12_order_55 : decode cX12_order 55 = .ok (.istore 8, 2) := by decide +kernel
theorem dX12_order_57 : decode cX12_order 57 = .ok (.iload 7, 2) := by decide +kernel
theorem dX12_order_59 : decode cX12_order 59 = .ok (.ifCond .lt 57, 3) := by decide +kernel
theorem dX12_order_62 : decode cX12_order 62 = .ok (.iinc 8 1, 3) := by decide +kernel
theorem dX12_order_65 : decode cX12_order 65 = .ok (.iconst 0, 1) := by decide +kernel
theorem dX12_order_66 : decode cX12_order 66 = .ok (.istore 9, 2) := by decide +kernel
theorem dX12_order_68 : decode cX12_order 68 = .ok (.iconst 0, 1) := by decide +kernel
theorem dX12_order_69 : decode cX12_order 69 = .ok (.istore 10, 2) := by decide +kernel
theorem dX12_order_71 : decode cX12_order 71 = .ok (.iload 10, 2) := by decide +kernel
theorem dX12_order_73 : decode cX12_order 73 = .ok (.iload 4, 2) := by decide +kernel
theorem dX12_order_75 : decode cX12_order 75 = .ok (.if_icmp .ge 30, 3) := by decide +kernel
theorem dX12_order_78 : decode cX12_order 78 = .ok (.iload 9, 2) := by decide +kernel
theorem dX12_order_80 : decode cX12_order 80 = .ok (.ifCond .ne 12, 3) := by decide +kernel
theorem dX12_order_83 : decode cX12_order 83 = .ok (.aload_n 0, 1) := by decide +kernel
theorem dX12_order_84 : decode cX12_order 84 = .ok (.iload 10, 2) := by decide +kernel
theorem dX12_order_86 : decode cX12_order 86 = .ok (.iaload, 1) := by decide +kernel
theorem dX12_order_87 : decode cX12_order 87 = .ok (.iload 8, 2) := by decide +kernel
theorem dX12_order_89 : decode cX12_order 89 = .ok (.if_icmp .ne 7, 3) := by decide +kernel
theorem dX12_order_92 : decode cX12_order 92 = .ok (.iconst 1, 1) := by decide +kernel
theorem dX12_order_93 : decode cX12_order 93 = .ok (.goto 4, 3) := by decide +kernel
theorem dX12_order_96 : decode cX12_order 96 = .ok (.iconst 0, 1) := by decide +kernel
theorem dX12_order_97 : decode cX12_order 97 = .ok (.istore 9, 2) := by decide +kernel
theorem dX12_order_99 : decode cX12_order 99 = .ok (.iinc 10 1, 3) := by decide +kernel
theorem dX12_order_102 : decode cX12_order 102 = .ok (.goto (-31), 3) := by decide +kernel
theorem dX12_order_105 : decode cX12_order 105 = .ok (.iload 9, 2) := by decide +kernel
theorem dX12_order_107 : decode cX12_order 107 = .ok (.ifCond .ne 6, 3) := by decide +kernel
theorem dX12_order_110 : decode cX12_order 110 = .ok (.iinc 7 (-1), 3) := by decide +kernel
theorem dX12_order_113 : decode cX12_order 113 = .ok (.goto (-56), 3) := by decide +kernel
theorem dX12_order_116 : decode cX12_order 116 = .ok (.aload_n 0, 1) := by decide +kernel
theorem dX12_order_117 : decode cX12_order 117 = .ok (.iload 4, 2) := by decide +kernel
theorem dX12_order_119 : decode cX12_order 119 = .ok (.iload 8, 2) := by decide +kernel
theorem dX12_order_121 : decode cX12_order 121 = .ok (.iastore, 1) := by decide +kernel
theorem dX12_order_122 : decode cX12_order 122 = .ok (.iinc 4 1, 3) := by decide +kernel
theorem dX12_order_125 : decode cX12_order 125 = .ok (.goto (-120), 3) := by decide +kernel
theorem dX12_order_128 : decode cX12_order 128 = .ok (.return_, 1) := by decide +kernel
theorem dX12_turned_0 : decode cX12_turned 0 = .ok (.iconst 0, 1) := by decide +kernel
theorem dX12_turned_1 : decode cX12_turned 1 = .ok (.istore_n 2, 1) := by decide +kernel
theorem dX12_turned_2 : decode cX12_turned 2 = .ok (.iload_n 2, 1) := by decide +kernel
theorem dX12_turned_3 : decode cX12_turned 3 = .ok (.aload_n 0, 1) := by decide +kernel
theorem dX12_turned_4 : decode cX12_turned 4 = .ok (.getfield 7, 3) := by decide +kernel
theorem dX12_turned_7 : decode cX12_turned 7 = .ok (.if_icmp .ge 31, 3) := by decide +kernel
theorem dX12_turned_10 : decode cX12_turned 10 = .ok (.aload_n 0, 1) := by decide +kernel
theorem dX12_turned_11 : decode cX12_turned 11 = .ok (.getfield 57, 3) := by decide +kernel
theorem dX12_turned_14 : decode cX12_turned 14 = .ok (.aload_n 0, 1) := by decide +kernel
theorem dX12_turned_15 : decode cX12_turned 15 = .ok (.getfield 51, 3) := by decide +kernel
theorem dX12_turned_18 : decode cX12_turned 18 = .ok (.iload_n 2, 1) := by decide +kernel
theorem dX12_turned_19 : decode cX12_turned 19 = .ok (.iaload, 1) := by decide +kernel
theorem dX12_turned_20 : decode cX12_turned 20 = .ok (.aload_n 0, 1) := by decide +kernel
theorem dX12_turned_21 : decode cX12_turned 21 = .ok (.getfield 54, 3) := by decide +kernel
theorem dX12_turned_24 : decode cX12_turned 24 = .ok (.aload_n 0, 1) := by decide +kernel
theorem dX12_turned_25 : decode cX12_turned 25 = .ok (.iload_n 1, 1) := by decide +kernel
theorem dX12_turned_26 : decode cX12_turned 26 = .ok (.iload_n 2, 1) := by decide +kernel
theorem dX12_turned_27 : decode cX12_turned 27 = .ok (.invokevirtual 146, 3) := by decide +kernel
theorem dX12_turned_30 : decode cX12_turned 30 = .ok (.iaload, 1) := by decide +kernel
theorem dX12_turned_31 : decode cX12_turned 31 = .ok (.iastore, 1) := by decide +kernel
theorem dX12_turned_32 : decode cX12_turned 32 = .ok (.iinc 2 1, 3) := by decide +kernel
theorem dX12_turned_35 : decode cX12_turned 35 = .ok (.goto (-33), 3) := by decide +kernel
theorem dX12_turned_38 : decode cX12_turned 38 = .ok (.iconst 0, 1) := by decide +kernel
theorem dX12_turned_39 : decode cX12_turned 39 = .ok (.istore_n 2, 1) := by decide +kernel
theorem dX12_turned_40 : decode cX12_turned 40 = .ok (.iconst 0, 1) := by decide +kernel
theorem dX12_turned_41 : decode cX12_turned 41 = .ok (.istore_n 3, 1) := by decide +kernel
theorem dX12_turned_42 : decode cX12_turned 42 = .ok (.iload_n 3, 1) := by decide +kernel
theorem dX12_turned_43 : decode cX12_turned 43 = .ok (.aload_n 0, 1) := by decide +kernel
theorem dX12_turned_44 : decode cX12_turned 44 = .ok (.getfield 7, 3) := by decide +kernel
theorem dX12_turned_47 : decode cX12_turned 47 = .ok (.if_icmp .ge 23, 3) := by decide +kernel
theorem dX12_turned_50 : decode cX12_turned 50 = .ok (.aload_n 0, 1) := by decide +kernel
theorem dX12_turned_51 : decode cX12_turned 51 = .ok (.getfield 13, 3) := by decide +kernel
theorem dX12_turned_54 : decode cX12_turned 54 = .ok (.iload_n 2, 1) := by decide +kernel
theorem dX12_turned_55 : decode cX12_turned 55 = .ok (.imul, 1) := by decide +kernel
theorem dX12_turned_56 : decode cX12_turned 56 = .ok (.aload_n 0, 1) := by decide +kernel
theorem dX12_turned_57 : decode cX12_turned 57 = .ok (.getfield 57, 3) := by decide +kernel
theorem dX12_turned_60 : decode cX12_turned 60 = .ok (.iload_n 3, 1) := by decide +kernel
theorem dX12_turned_61 : decode cX12_turned 61 = .ok (.iaload, 1) := by decide +kernel
theorem dX12_turned_62 : decode cX12_turned 62 = .ok (.iadd, 1) := by decide +kernel
theorem dX12_turned_63 : decode cX12_turned 63 = .ok (.istore_n 2, 1) := by decide +kernel
theorem dX12_turned_64 : decode cX12_turned 64 = .ok (.iinc 3 1, 3) := by decide +kernel
theorem dX12_turned_67 : decode cX12_turned 67 = .ok (.goto (-25), 3) := by decide +kernel
theorem dX12_turned_70 : decode cX12_turned 70 = .ok (.iload_n 2, 1) := by decide +kernel
theorem dX12_turned_71 : decode cX12_turned 71 = .ok (.ireturn, 1) := by decide +kernel
theorem dX12_isLeft_0 : decode cX12_isLeft 0 = .ok (.aload_n 0, 1) := by decide +kernel
theorem dX12_isLeft_1 : decode cX12_isLeft 1 = .ok (.iload_n 1, 1) := by decide +kernel
theorem dX12_isLeft_2 : decode cX12_isLeft 2 = .ok (.invokevirtual 167, 3) := by decide +kernel
theorem dX12_isLeft_5 : decode cX12_isLeft 5 = .ok (.ifCond .eq 26, 3) := by decide +kernel
theorem dX12_isLeft_8 : decode cX12_isLeft 8 = .ok (.aload_n 0, 1) := by decide +kernel
theorem dX12_isLeft_9 : decode cX12_isLeft 9 = .ok (.iload_n 1, 1) := by decide +kernel
theorem dX12_isLeft_10 : decode cX12_isLeft 10 = .ok (.aload_n 0, 1) := by decide +kernel
theorem dX12_isLeft_11 : decode cX12_isLeft 11 = .ok (.getfield 171, 3) := by decide +kernel
theorem dX12_isLeft_14 : decode cX12_isLeft 14 = .ok (.invokevirtual 174, 3) := by decide +kernel
theorem dX12_isLeft_17 : decode cX12_isLeft 17 = .ok (.invokestatic 177, 3) := by decide +kernel
theorem dX12_isLeft_20 : decode cX12_isLeft 20 = .ok (.aload_n 0, 1) := by decide +kernel
theorem dX12_isLeft_21 : decode cX12_isLeft 21 = .ok (.getfield 180, 3) := by decide +kernel
theorem dX12_isLeft_24 : decode cX12_isLeft 24 = .ok (.if_icmp .gt 7, 3) := by decide +kernel
theorem dX12_isLeft_27 : decode cX12_isLeft 27 = .ok (.iconst 1, 1) := by decide +kernel
theorem dX12_isLeft_28 : decode cX12_isLeft 28 = .ok (.goto 4, 3) := by decide +kernel
theorem dX12_isLeft_31 : decode cX12_isLeft 31 = .ok (.iconst 0, 1) := by decide +kernel
theorem dX12_isLeft_32 : decode cX12_isLeft 32 = .ok (.ireturn, 1) := by decide +kernel
theorem dX12_like_0 : decode cX12_like 0 = .ok (.aload_n 0, 1) := by decide +kernel
theorem dX12_like_1 : decode cX12_like 1 = .ok (.iconst 0, 1) := by decide +kernel
theorem dX12_like_2 : decode cX12_like 2 = .ok (.putfield 139, 3) := by decide +kernel
theorem dX12_like_5 : decode cX12_like 5 = .ok (.aload_n 0, 1) := by decide +kernel
theorem dX12_like_6 : decode cX12_like 6 = .ok (.iload_n 1, 1) := by decide +kernel
theorem dX12_like_7 : decode cX12_like 7 = .ok (.invokevirtual 199, 3) := by decide +kernel
theorem dX12_like_10 : decode cX12_like 10 = .ok (.ifCond .eq 11, 3) := by decide +kernel
theorem dX12_like_13 : decode cX12_like 13 = .ok (.aload_n 0, 1) := by decide +kernel
theorem dX12_like_14 : decode cX12_like 14 = .ok (.iload_n 2, 1) := by decide +kernel
theorem dX12_like_15 : decode cX12_like 15 = .ok (.invokevirtual 199, 3) := by decide +kernel
theorem dX12_like_18 : decode cX12_like 18 = .ok (.ifCond .ne 5, 3) := by decide +kernel
theorem dX12_like_21 : decode cX12_like 21 = .ok (.iconst (-1), 1) := by decide +kernel
theorem dX12_like_22 : decode cX12_like 22 = .ok (.ireturn, 1) := by decide +kernel
theorem dX12_like_23 : decode cX12_like 23 = .ok (.aload_n 0, 1) := by decide +kernel
theorem dX12_like_24 : decode cX12_like 24 = .ok (.getfield 7, 3) := by decide +kernel
theorem dX12_like_27 : decode cX12_like 27 = .ok (.iconst 4, 1) := by decide +kernel
theorem dX12_like_28 : decode cX12_like 28 = .ok (.if_icmp .gt 11, 3) := by decide +kernel
theorem dX12_like_31 : decode cX12_like 31 = .ok (.aload_n 0, 1) := by decide +kernel
theorem dX12_like_32 : decode cX12_like 32 = .ok (.getfield 13, 3) := by decide +kernel
theorem dX12_like_35 : decode cX12_like 35 = .ok (.iconst 5, 1) := by decide +kernel
theorem dX12_like_36 : decode cX12_like 36 = .ok (.if_icmp .le 6, 3) := by decide +kernel
theorem dX12_like_39 : decode cX12_like 39 = .ok (.bipush (-5), 2) := by decide +kernel
theorem dX12_like_41 : decode cX12_like 41 = .ok (.ireturn, 1) := by decide +kernel
theorem dX12_like_42 : decode cX12_like 42 = .ok (.aload_n 0, 1) := by decide +kernel
theorem dX12_like_43 : decode cX12_like 43 = .ok (.invokevirtual 208, 3) := by decide +kernel
theorem dX12_like_46 : decode cX12_like 46 = .ok (.iconst 0, 1) := by decide +kernel
theorem dX12_like_47 : decode cX12_like 47 = .ok (.istore_n 3, 1) := by decide +kernel
theorem dX12_like_48 : decode cX12_like 48 = .ok (.iload_n 3, 1) := by decide +kernel
theorem dX12_like_49 : decode cX12_like 49 = .ok (.aload_n 0, 1) := by decide +kernel
theorem dX12_like_50 : decode cX12_like 50 = .ok (.getfield 16, 3) := by decide +kernel
theorem dX12_like_53 : decode cX12_like 53 = .ok (.if_icmp .ge 20, 3) := by decide +kernel
theorem dX12_like_56 : decode cX12_like 56 = .ok (.aload_n 0, 1) := by decide +kernel
theorem dX12_like_57 : decode cX12_like 57 = .ok (.getfield 60, 3) := by decide +kernel
theorem dX12_like_60 : decode cX12_like 60 = .ok (.iload_n 3, 1) := by decide +kernel
theorem dX12_like_61 : decode cX12_like 61 = .ok (.aload_n 0, 1) := by decide +kernel
theorem dX12_like_62 : decode cX12_like 62 = .ok (.iload_n 3, 1) := by decide +kernel
theorem dX12_like_63 : decode cX12_like 63 = .ok (.invokevirtual 228, 3) := by decide +kernel
theorem dX12_like_66 : decode cX12_like 66 = .ok (.bastore, 1) := by decide +kernel
theorem dX12_like_67 : decode cX12_like 67 = .ok (.iinc 3 1, 3) := by decide +kernel
theorem dX12_like_70 : decode cX12_like 70 = .ok (.goto (-22), 3) := by decide +kernel
theorem dX12_like_73 : decode cX12_like 73 = .ok (.iconst 1, 1) := by decide +kernel
theorem dX12_like_74 : decode cX12_like 74 = .ok (.istore_n 3, 1) := by decide +kernel
theorem dX12_like_75 : decode cX12_like 75 = .ok (.iconst 2, 1) := by decide +kernel
theorem dX12_like_76 : decode cX12_like 76 = .ok (.istore 4, 2) := by decide +kernel
theorem dX12_like_78 : decode cX12_like 78 = .ok (.iload 4, 2) := by decide +kernel
theorem dX12_like_80 : decode cX12_like 80 = .ok (.aload_n 0, 1) := by decide +kernel
theorem dX12_like_81 : decode cX12_like 81 = .ok (.getfield 7, 3) := by decide +kernel
theorem dX12_like_84 : decode cX12_like 84 = .ok (.if_icmp .gt 14, 3) := by decide +kernel
theorem dX12_like_87 : decode cX12_like 87 = .ok (.iload_n 3, 1) := by decide +kernel
theorem dX12_like_88 : decode cX12_like 88 = .ok (.iload 4, 2) := by decide +kernel
theorem dX12_like_90 : decode cX12_like 90 = .ok (.imul, 1) := by decide +kernel
theorem dX12_like_91 : decode cX12_like 91 = .ok (.istore_n 3, 1) := by decide +kernel
theorem dX12_like_92 : decode cX12_like 92 = .ok (.iinc 4 1, 3) := by decide +kernel
theorem dX12_like_95 : decode cX12_like 95 = .ok (.goto (-17), 3) := by decide +kernel
theorem dX12_like_98 : decode cX12_like 98 = .ok (.iconst 1, 1) := by decide +kernel
theorem dX12_like_99 : decode cX12_like 99 = .ok (.istore 4, 2) := by decide +kernel
theorem dX12_like_101 : decode cX12_like 101 = .ok (.iconst 2, 1) := by decide +kernel
theorem dX12_like_102 : decode cX12_like 102 = .ok (.istore 5, 2) := by decide +kernel
theorem dX12_like_104 : decode cX12_like 104 = .ok (.iload 5, 2) := by decide +kernel
theorem dX12_like_106 : decode cX12_like 106 = .ok (.aload_n 0, 1) := by decide +kernel
theorem dX12_like_107 : decode cX12_like 107 = .ok (.getfield 13, 3) := by decide +kernel
theorem dX12_like_110 : decode cX12_like 110 = .ok (.if_icmp .gt 16, 3) := by decide +kernel
theorem dX12_like_113 : decode cX12_like 113 = .ok (.iload 4, 2) := by decide +kernel
theorem dX12_like_115 : decode cX12_like 115 = .ok (.iload 5, 2) := by decide +kernel
theorem dX12_like_117 : decode cX12_like 117 = .ok (.imul, 1) := by decide +kernel
theorem dX12_like_118 : decode cX12_like 118 = .ok (.istore 4, 2) := by decide +kernel
theorem dX12_like_120 : decode cX12_like 120 = .ok (.iinc 5 1, 3) := by decide +kernel
theorem dX12_like_123 : decode cX12_like 123 = .ok (.goto (-19), 3) := by decide +kernel
theorem dX12_like_126 : decode cX12_like 126 = .ok (.iconst 0, 1) := by decide +kernel
theorem dX12_like_127 : decode cX12_like 127 = .ok (.istore 5, 2) := by decide +kernel
theorem dX12_like_129 : decode cX12_like 129 = .ok (.iload 5, 2) := by decide +kernel
theorem dX12_like_131 : decode cX12_like 131 = .ok (.iload_n 3, 1) := by decide +kernel
theorem dX12_like_132 : decode cX12_like 132 = .ok (.if_icmp .ge 114, 3) := by decide +kernel
theorem dX12_like_135 : decode cX12_like 135 = .ok (.aload_n 0, 1) := by decide +kernel
theorem dX12_like_136 : decode cX12_like 136 = .ok (.getfield 51, 3) := by decide +kernel
theorem dX12_like_139 : decode cX12_like 139 = .ok (.aload_n 0, 1) := by decide +kernel
theorem dX12_like_140 : decode cX12_like 140 = .ok (.getfield 7, 3) := by decide +kernel
theorem dX12_like_143 : decode cX12_like 143 = .ok (.iload 5, 2) := by decide +kernel
theorem dX12_like_145 : decode cX12_like 145 = .ok (.invokestatic 231, 3) := by decide +kernel
theorem dX12_like_148 : decode cX12_like 148 = .ok (.iconst 0, 1) := by decide +kernel
theorem dX12_like_149 : decode cX12_like 149 = .ok (.istore 6, 2) := by decide +kernel
theorem dX12_like_151 : decode cX12_like 151 = .ok (.iload 6, 2) := by decide +kernel
theorem dX12_like_153 : decode cX12_like 153 = .ok (.iload 4, 2) := by decide +kernel
theorem dX12_like_155 : decode cX12_like 155 = .ok (.if_icmp .ge 85, 3) := by decide +kernel
theorem dX12_like_158 : decode cX12_like 158 = .ok (.aload_n 0, 1) := by decide +kernel
theorem dX12_like_159 : decode cX12_like 159 = .ok (.getfield 54, 3) := by decide +kernel
theorem dX12_like_162 : decode cX12_like 162 = .ok (.aload_n 0, 1) := by decide +kernel
theorem dX12_like_163 : decode cX12_like 163 = .ok (.getfield 13, 3) := by decide +kernel
theorem dX12_like_166 : decode cX12_like 166 = .ok (.iload 6, 2) := by decide +kernel
theorem dX12_like_168 : decode cX12_like 168 = .ok (.invokestatic 231, 3) := by decide +kernel
theorem dX12_like_171 : decode cX12_like 171 = .ok (.aload_n 0, 1) := by decide +kernel
theorem dX12_like_172 : decode cX12_like 172 = .ok (.iload_n 1, 1) := by decide +kernel
theorem dX12_like_173 : decode cX12_like 173 = .ok (.invokevirtual 235, 3) := by decide +kernel
theorem dX12_like_176 : decode cX12_like 176 = .ok (.iload_n 2, 1) := by decide +kernel
theorem dX12_like_177 : decode cX12_like 177 = .ok (.if_icmp .eq 6, 3) := by decide +kernel
theorem dX12_like_180 : decode cX12_like 180 = .ok (.goto 54, 3) := by decide +kernel
theorem dX12_like_183 : decode cX12_like 183 = .ok (.iconst 1, 1) := by decide +kernel
theorem dX12_like_184 : decode cX12_like 184 = .ok (.istore 7, 2) := by decide +kernel
theorem dX12_like_186 : decode cX12_like 186 = .ok (.iconst 0, 1) := by decide +kernel
theorem dX12_like_187 : decode cX12_like 187 = .ok (.istore 8, 2) := by decide +kernel
theorem dX12_like_189 : decode cX12_like 189 = .ok (.iload 8, 2) := by decide +kernel
theorem dX12_like_191 : decode cX12_like 191 = .ok (.aload_n 0, 1) := by decide +kernel
theorem dX12_like_192 : decode cX12_like 192 = .ok (.getfield 164, 3) := by decide +kernel
theorem dX12_like_195 : decode cX12_like 195 = .ok (.if_icmp .ge 32, 3) := by decide +kernel
theorem dX12_like_198 : decode cX12_like 198 = .ok (.iload 7, 2) := by decide +kernel
theorem dX12_like_200 : decode cX12_like 200 = .ok (.ifCond .eq 27, 3) := by decide +kernel
theorem dX12_like_203 : decode cX12_like 203 = .ok (.aload_n 0, 1) := by decide +kernel
theorem dX12_like_204 : decode cX12_like 204 = .ok (.getfield 60, 3) := by decide +kernel
theorem dX12_like_207 : decode cX12_like 207 = .ok (.aload_n 0, 1) := by decide +kernel
theorem dX12_like_208 : decode cX12_like 208 = .ok (.aload_n 0, 1) := by decide +kernel
theorem dX12_like_209 : decode cX12_like 209 = .ok (.getfield 42, 3) := by decide +kernel
theorem dX12_like_212 : decode cX12_like 212 = .ok (.iload 8, 2) := by decide +kernel
theorem dX12_like_214 : decode cX12_like 214 = .ok (.iaload, 1) := by decide +kernel
theorem dX12_like_215 : decode cX12_like 215 = .ok (.invokevirtual 235, 3) := by decide +kernel
theorem dX12_like_218 : decode cX12_like 218 = .ok (.baload, 1) := by decide +kernel
theorem dX12_like_219 : decode cX12_like 219 = .ok (.istore 7, 2) := by decide +kernel
theorem dX12_like_221 : decode cX12_like 221 = .ok (.iinc 8 1, 3) := by decide +kernel
theorem dX12_like_224 : decode cX12_like 224 = .ok (.goto (-35), 3) := by decide +kernel
theorem dX12_like_227 : decode cX12_like 227 = .ok (.iload 7, 2) := by decide +kernel
theorem dX12_like_229 : decode cX12_like 229 = .ok (.ifCond .eq 5, 3) := by decide +kernel
theorem dX12_like_232 : decode cX12_like 232 = .ok (.iconst 1, 1) := by decide +kernel
theorem dX12_like_233 : decode cX12_like 233 = .ok (.ireturn, 1) := by decide +kernel
theorem dX12_like_234 : decode cX12_like 234 = .ok (.iinc 6 1, 3) := by decide +kernel
theorem dX12_like_237 : decode cX12_like 237 = .ok (.goto (-86), 3) := by decide +kernel
theorem dX12_like_240 : decode cX12_like 240 = .ok (.iinc 5 1, 3) := by decide +kernel
theorem dX12_like_243 : decode cX12_like 243 = .ok (.goto (-114), 3) := by decide +kernel
theorem dX12_like_246 : decode cX12_like 246 = .ok (.iconst 0, 1) := by decide +kernel
theorem dX12_like_247 : decode cX12_like 247 = .ok (.ireturn, 1) := by decide +kernel
theorem dX12_refusedTree_0 : decode cX12_refusedTree 0 = .ok (.iload_n 1, 1) := by decide +kernel
theorem dX12_refusedTree_1 : decode cX12_refusedTree 1 = .ok (.iconst 0, 1) := by decide +kernel
theorem dX12_refusedTree_2 : decode cX12_refusedTree 2 = .ok (.iconst 1, 1) := by decide +kernel
theorem dX12_refusedTree_3 : decode cX12_refusedTree 3 = .ok (.invokestatic 142, 3) := by decide +kernel
theorem dX12_refusedTree_6 : decode cX12_refusedTree 6 = .ok (.ifCond .ne 5, 3) := by decide +kernel
theorem dX12_refusedTree_9 : decode cX12_refusedTree 9 = .ok (.iconst (-1), 1) := by decide +kernel
theorem dX12_refusedTree_10 : decode cX12_refusedTree 10 = .ok (.ireturn, 1) := by decide +kernel
theorem dX12_refusedTree_11 : decode cX12_refusedTree 11 = .ok (.aload_n 0, 1) := by decide +kernel
theorem dX12_refusedTree_12 : decode cX12_refusedTree 12 = .ok (.getfield 180, 3) := by decide +kernel
theorem dX12_refusedTree_15 : decode cX12_refusedTree 15 = .ok (.ifCond .eq 6, 3) := by decide +kernel
theorem dX12_refusedTree_18 : decode cX12_refusedTree 18 = .ok (.bipush (-6), 2) := by decide +kernel
theorem dX12_refusedTree_20 : decode cX12_refusedTree 20 = .ok (.ireturn, 1) := by decide +kernel
theorem dX12_refusedTree_21 : decode cX12_refusedTree 21 = .ok (.aload_n 0, 1) := by decide +kernel
theorem dX12_refusedTree_22 : decode cX12_refusedTree 22 = .ok (.invokevirtual 208, 3) := by decide +kernel
theorem dX12_refusedTree_25 : decode cX12_refusedTree 25 = .ok (.aload_n 0, 1) := by decide +kernel
theorem dX12_refusedTree_26 : decode cX12_refusedTree 26 = .ok (.getfield 164, 3) := by decide +kernel
theorem dX12_refusedTree_29 : decode cX12_refusedTree 29 = .ok (.ifCond .eq 22, 3) := by decide +kernel
theorem dX12_refusedTree_32 : decode cX12_refusedTree 32 = .ok (.aload_n 0, 1) := by decide +kernel
theorem dX12_refusedTree_33 : decode cX12_refusedTree 33 = .ok (.getfield 164, 3) := by decide +kernel
theorem dX12_refusedTree_36 : decode cX12_refusedTree 36 = .ok (.bipush 10, 2) := by decide +kernel
theorem dX12_refusedTree_38 : decode cX12_refusedTree 38 = .ok (.if_icmp .gt 13, 3) := by decide +kernel
theorem dX12_refusedTree_41 : decode cX12_refusedTree 41 = .ok (.aload_n 0, 1) := by decide +kernel
theorem dX12_refusedTree_42 : decode cX12_refusedTree 42 = .ok (.getfield 16, 3) := by decide +kernel
theorem dX12_refusedTree_45 : decode cX12_refusedTree 45 = .ok (.sipush 1296, 3) := by decide +kernel
theorem dX12_refusedTree_48 : decode cX12_refusedTree 48 = .ok (.if_icmp .le 8, 3) := by decide +kernel
theorem dX12_refusedTree_51 : decode cX12_refusedTree 51 = .ok (.bipush (-5), 2) := by decide +kernel
theorem dX12_refusedTree_53 : decode cX12_refusedTree 53 = .ok (.goto 4, 3) := by decide +kernel
theorem dX12_refusedTree_56 : decode cX12_refusedTree 56 = .ok (.iconst 0, 1) := by decide +kernel
theorem dX12_refusedTree_57 : decode cX12_refusedTree 57 = .ok (.ireturn, 1) := by decide +kernel
theorem dX12_split_0 : decode cX12_split 0 = .ok (.aload_n 0, 1) := by decide +kernel
theorem dX12_split_1 : decode cX12_split 1 = .ok (.iconst 0, 1) := by decide +kernel
theorem dX12_split_2 : decode cX12_split 2 = .ok (.putfield 238, 3) := by decide +kernel
theorem dX12_split_5 : decode cX12_split 5 = .ok (.iconst 0, 1) := by decide +kernel
theorem dX12_split_6 : decode cX12_split 6 = .ok (.istore_n 3, 1) := by decide +kernel
theorem dX12_split_7 : decode cX12_split 7 = .ok (.iconst 0, 1) := by decide +kernel
theorem dX12_split_8 : decode cX12_split 8 = .ok (.istore 4, 2) := by decide +kernel
theorem dX12_split_10 : decode cX12_split 10 = .ok (.iload 4, 2) := by decide +kernel
theorem dX12_split_12 : decode cX12_split 12 = .ok (.aload_n 0, 1) := by decide +kernel
theorem dX12_split_13 : decode cX12_split 13 = .ok (.getfield 164, 3) := by decide +kernel
theorem dX12_split_16 : decode cX12_split 16 = .ok (.if_icmp .ge 132, 3) := by decide +kernel
theorem dX12_split_19 : decode cX12_split 19 = .ok (.iload_n 2, 1) := by decide +kernel
theorem dX12_split_20 : decode cX12_split 20 = .ok (.iload 4, 2) := by decide +kernel
theorem dX12_split_22 : decode cX12_split 22 = .ok (.ishr, 1) := by decide +kernel
theorem dX12_split_23 : decode cX12_split 23 = .ok (.iconst 1, 1) := by decide +kernel
theorem dX12_split_24 : decode cX12_split 24 = .ok (.iand, 1) := by decide +kernel
theorem dX12_split_25 : decode cX12_split 25 = .ok (.ifCond .ne 6, 3) := by decide +kernel
theorem dX12_split_28 : decode cX12_split 28 = .ok (.goto 114, 3) := by decide +kernel
theorem dX12_split_31 : decode cX12_split 31 = .ok (.aload_n 0, 1) := by decide +kernel
theorem dX12_split_32 : decode cX12_split 32 = .ok (.getfield 76, 3) := by decide +kernel
theorem dX12_split_35 : decode cX12_split 35 = .ok (.bipush 10, 2) := by decide +kernel
theorem dX12_split_37 : decode cX12_split 37 = .ok (.iload_n 1, 1) := by decide +kernel
theorem dX12_split_38 : decode cX12_split 38 = .ok (.imul, 1) := by decide +kernel
theorem dX12_split_39 : decode cX12_split 39 = .ok (.iload 4, 2) := by decide +kernel
theorem dX12_split_41 : decode cX12_split 41 = .ok (.iadd, 1) := by decide +kernel
theorem dX12_split_42 : decode cX12_split 42 = .ok (.iaload, 1) := by decide +kernel
theorem dX12_split_43 : decode cX12_split 43 = .ok (.istore 5, 2) := by decide +kernel
theorem dX12_split_45 : decode cX12_split 45 = .ok (.iload 5, 2) := by decide +kernel
theorem dX12_split_47 : decode cX12_split 47 = .ok (.bipush 10, 2) := by decide +kernel
theorem dX12_split_49 : decode cX12_split 49 = .ok (.aload_n 0, 1) := by decide +kernel
theorem dX12_split_50 : decode cX12_split 50 = .ok (.getfield 7, 3) := by decide +kernel
theorem dX12_split_53 : decode cX12_split 53 = .ok (.imul, 1) := by decide +kernel
theorem dX12_split_54 : decode cX12_split 54 = .ok (.if_icmp .ne 8, 3) := by decide +kernel
theorem dX12_split_57 : decode cX12_split 57 = .ok (.iconst 1, 1) := by decide +kernel
theorem dX12_split_58 : decode cX12_split 58 = .ok (.istore_n 3, 1) := by decide +kernel
theorem dX12_split_59 : decode cX12_split 59 = .ok (.goto 83, 3) := by decide +kernel
theorem dX12_split_62 : decode cX12_split 62 = .ok (.iconst 0, 1) := by decide +kernel
theorem dX12_split_63 : decode cX12_split 63 = .ok (.istore 6, 2) := by decide +kernel
theorem dX12_split_65 : decode cX12_split 65 = .ok (.iload 6, 2) := by decide +kernel
theorem dX12_split_67 : decode cX12_split 67 = .ok (.aload_n 0, 1) := by decide +kernel
theorem dX12_split_68 : decode cX12_split 68 = .ok (.getfield 238, 3) := by decide +kernel
theorem dX12_split_71 : decode cX12_split 71 = .ok (.if_icmp .ge 21, 3) := by decide +kernel
theorem dX12_split_74 : decode cX12_split 74 = .ok (.aload_n 0, 1) := by decide +kernel
theorem dX12_split_75 : decode cX12_split 75 = .ok (.getfield 82, 3) := by decide +kernel
theorem dX12_split_78 : decode cX12_split 78 = .ok (.iload 6, 2) := by decide +kernel
theorem dX12_split_80 : decode cX12_split 80 = .ok (.iaload, 1) := by decide +kernel
theorem dX12_split_81 : decode cX12_split 81 = .ok (.iload 5, 2) := by decide +kernel
theorem dX12_split_83 : decode cX12_split 83 = .ok (.if_icmp .eq 9, 3) := by decide +kernel
theorem dX12_split_86 : decode cX12_split 86 = .ok (.iinc 6 1, 3) := by decide +kernel
theorem dX12_split_89 : decode cX12_split 89 = .ok (.goto (-24), 3) := by decide +kernel
theorem dX12_split_92 : decode cX12_split 92 = .ok (.iload 6, 2) := by decide +kernel
theorem dX12_split_94 : decode cX12_split 94 = .ok (.aload_n 0, 1) := by decide +kernel
theorem dX12_split_95 : decode cX12_split 95 = .ok (.getfield 238, 3) := by decide +kernel
theorem dX12_split_98 : decode cX12_split 98 = .ok (.if_icmp .ne 30, 3) := by decide +kernel
theorem dX12_split_101 : decode cX12_split 101 = .ok (.aload_n 0, 1) := by decide +kernel
theorem dX12_split_102 : decode cX12_split 102 = .ok (.getfield 82, 3) := by decide +kernel
theorem dX12_split_105 : decode cX12_split 105 = .ok (.iload 6, 2) := by decide +kernel
theorem dX12_split_107 : decode cX12_split 107 = .ok (.iload 5, 2) := by decide +kernel
theorem dX12_split_109 : decode cX12_split 109 = .ok (.iastore, 1) := by decide +kernel
theorem dX12_split_110 : decode cX12_split 110 = .ok (.aload_n 0, 1) := by decide +kernel
theorem dX12_split_111 : decode cX12_split 111 = .ok (.getfield 79, 3) := by decide +kernel
theorem dX12_split_114 : decode cX12_split 114 = .ok (.iload 6, 2) := by decide +kernel
theorem dX12_split_116 : decode cX12_split 116 = .ok (.iconst 0, 1) := by decide +kernel
theorem dX12_split_117 : decode cX12_split 117 = .ok (.iastore, 1) := by decide +kernel
theorem dX12_split_118 : decode cX12_split 118 = .ok (.aload_n 0, 1) := by decide +kernel
theorem dX12_split_119 : decode cX12_split 119 = .ok (.dup, 1) := by decide +kernel
theorem dX12_split_120 : decode cX12_split 120 = .ok (.getfield 238, 3) := by decide +kernel
theorem dX12_split_123 : decode cX12_split 123 = .ok (.iconst 1, 1) := by decide +kernel
theorem dX12_split_124 : decode cX12_split 124 = .ok (.iadd, 1) := by decide +kernel
theorem dX12_split_125 : decode cX12_split 125 = .ok (.putfield 238, 3) := by decide +kernel
theorem dX12_split_128 : decode cX12_split 128 = .ok (.aload_n 0, 1) := by decide +kernel
theorem dX12_split_129 : decode cX12_split 129 = .ok (.getfield 79, 3) := by decide +kernel
theorem dX12_split_132 : decode cX12_split 132 = .ok (.iload 6, 2) := by decide +kernel
theorem dX12_split_134 : decode cX12_split 134 = .ok (.dup2, 1) := by decide +kernel
theorem dX12_split_135 : decode cX12_split 135 = .ok (.iaload, 1) := by decide +kernel
theorem dX12_split_136 : decode cX12_split 136 = .ok (.iconst 1, 1) := by decide +kernel
theorem dX12_split_137 : decode cX12_split 137 = .ok (.iload 4, 2) := by decide +kernel
theorem dX12_split_139 : decode cX12_split 139 = .ok (.ishl, 1) := by decide +kernel
theorem dX12_split_140 : decode cX12_split 140 = .ok (.ior, 1) := by decide +kernel
theorem dX12_split_141 : decode cX12_split 141 = .ok (.iastore, 1) := by decide +kernel
theorem dX12_split_142 : decode cX12_split 142 = .ok (.iinc 4 1, 3) := by decide +kernel
theorem dX12_split_145 : decode cX12_split 145 = .ok (.goto (-135), 3) := by decide +kernel
theorem dX12_split_148 : decode cX12_split 148 = .ok (.aload_n 0, 1) := by decide +kernel
theorem dX12_split_149 : decode cX12_split 149 = .ok (.getfield 238, 3) := by decide +kernel
theorem dX12_split_152 : decode cX12_split 152 = .ok (.iload_n 3, 1) := by decide +kernel
theorem dX12_split_153 : decode cX12_split 153 = .ok (.iadd, 1) := by decide +kernel
theorem dX12_split_154 : decode cX12_split 154 = .ok (.ireturn, 1) := by decide +kernel
theorem dX12_isIn_0 : decode cX12_isIn 0 = .ok (.iconst 0, 1) := by decide +kernel
theorem dX12_isIn_1 : decode cX12_isIn 1 = .ok (.istore_n 3, 1) := by decide +kernel
theorem dX12_isIn_2 : decode cX12_isIn 2 = .ok (.iload_n 3, 1) := by decide +kernel
theorem dX12_isIn_3 : decode cX12_isIn 3 = .ok (.aload_n 0, 1) := by decide +kernel
theorem dX12_isIn_4 : decode cX12_isIn 4 = .ok (.getfield 164, 3) := by decide +kernel
theorem dX12_isIn_7 : decode cX12_isIn 7 = .ok (.if_icmp .ge 30, 3) := by decide +kernel
theorem dX12_isIn_10 : decode cX12_isIn 10 = .ok (.iload_n 2, 1) := by decide +kernel
theorem dX12_isIn_11 : decode cX12_isIn 11 = .ok (.iload_n 3, 1) := by decide +kernel
theorem dX12_isIn_12 : decode cX12_isIn 12 = .ok (.ishr, 1) := by decide +kernel
theorem dX12_isIn_13 : decode cX12_isIn 13 = .ok (.iconst 1, 1) := by decide +kernel
theorem dX12_isIn_14 : decode cX12_isIn 14 = .ok (.iand, 1) := by decide +kernel
theorem dX12_isIn_15 : decode cX12_isIn 15 = .ok (.iconst 1, 1) := by decide +kernel
theorem dX12_isIn_16 : decode cX12_isIn 16 = .ok (.if_icmp .ne 15, 3) := by decide +kernel
theorem dX12_isIn_19 : decode cX12_isIn 19 = .ok (.aload_n 0, 1) := by decide +kernel
theorem dX12_isIn_20 : decode cX12_isIn 20 = .ok (.getfield 42, 3) := by decide +kernel
theorem dX12_isIn_23 : decode cX12_isIn 23 = .ok (.iload_n 3, 1) := by decide +kernel
theorem dX12_isIn_24 : decode cX12_isIn 24 = .ok (.iaload, 1) := by decide +kernel
theorem dX12_isIn_25 : decode cX12_isIn 25 = .ok (.iload_n 1, 1) := by decide +kernel
theorem dX12_isIn_26 : decode cX12_isIn 26 = .ok (.if_icmp .ne 5, 3) := by decide +kernel
theorem dX12_isIn_29 : decode cX12_isIn 29 = .ok (.iconst 1, 1) := by decide +kernel
theorem dX12_isIn_30 : decode cX12_isIn 30 = .ok (.ireturn, 1) := by decide +kernel
theorem dX12_isIn_31 : decode cX12_isIn 31 = .ok (.iinc 3 1, 3) := by decide +kernel
theorem dX12_isIn_34 : decode cX12_isIn 34 = .ok (.goto (-32), 3) := by decide +kernel
theorem dX12_isIn_37 : decode cX12_isIn 37 = .ok (.iconst 0, 1) := by decide +kernel
theorem dX12_isIn_38 : decode cX12_isIn 38 = .ok (.ireturn, 1) := by decide +kernel
theorem dX12_trees_0 : decode cX12_trees 0 = .ok (.iconst 0, 1) := by decide +kernel
theorem dX12_trees_1 : decode cX12_trees 1 = .ok (.istore_n 2, 1) := by decide +kernel
theorem dX12_trees_2 : decode cX12_trees 2 = .ok (.iload_n 2, 1) := by decide +kernel
theorem dX12_trees_3 : decode cX12_trees 3 = .ok (.aload_n 0, 1) := by decide +kernel
theorem dX12_trees_4 : decode cX12_trees 4 = .ok (.getfield 16, 3) := by decide +kernel
theorem dX12_trees_7 : decode cX12_trees 7 = .ok (.if_icmp .ge 51, 3) := by decide +kernel
theorem dX12_trees_10 : decode cX12_trees 10 = .ok (.aload_n 0, 1) := by decide +kernel
theorem dX12_trees_11 : decode cX12_trees 11 = .ok (.iload_n 2, 1) := by decide +kernel
theorem dX12_trees_12 : decode cX12_trees 12 = .ok (.invokevirtual 214, 3) := by decide +kernel
theorem dX12_trees_15 : decode cX12_trees 15 = .ok (.iconst 0, 1) := by decide +kernel
theorem dX12_trees_16 : decode cX12_trees 16 = .ok (.istore_n 3, 1) := by decide +kernel
theorem dX12_trees_17 : decode cX12_trees 17 = .ok (.iload_n 3, 1) := by decide +kernel
theorem dX12_trees_18 : decode cX12_trees 18 = .ok (.aload_n 0, 1) := by decide +kernel
theorem dX12_trees_19 : decode cX12_trees 19 = .ok (.getfield 164, 3) := by decide +kernel
theorem dX12_trees_22 : decode cX12_trees 22 = .ok (.if_icmp .ge 30, 3) := by decide +kernel
theorem dX12_trees_25 : decode cX12_trees 25 = .ok (.aload_n 0, 1) := by decide +kernel
theorem dX12_trees_26 : decode cX12_trees 26 = .ok (.getfield 76, 3) := by decide +kernel
theorem dX12_trees_29 : decode cX12_trees 29 = .ok (.bipush 10, 2) := by decide +kernel
theorem dX12_trees_31 : decode cX12_trees 31 = .ok (.iload_n 2, 1) := by decide +kernel
theorem dX12_trees_32 : decode cX12_trees 32 = .ok (.imul, 1) := by decide +kernel
theorem dX12_trees_33 : decode cX12_trees 33 = .ok (.iload_n 3, 1) := by decide +kernel
theorem dX12_trees_34 : decode cX12_trees 34 = .ok (.iadd, 1) := by decide +kernel
theorem dX12_trees_35 : decode cX12_trees 35 = .ok (.aload_n 0, 1) := by decide +kernel
theorem dX12_trees_36 : decode cX12_trees 36 = .ok (.aload_n 0, 1) := by decide +kernel
theorem dX12_trees_37 : decode cX12_trees 37 = .ok (.getfield 42, 3) := by decide +kernel
theorem dX12_trees_40 : decode cX12_trees 40 = .ok (.iload_n 3, 1) := by decide +kernel
theorem dX12_trees_41 : decode cX12_trees 41 = .ok (.iaload, 1) := by decide +kernel
theorem dX12_trees_42 : decode cX12_trees 42 = .ok (.invokevirtual 160, 3) := by decide +kernel
theorem dX12_trees_45 : decode cX12_trees 45 = .ok (.iastore, 1) := by decide +kernel
theorem dX12_trees_46 : decode cX12_trees 46 = .ok (.iinc 3 1, 3) := by decide +kernel
theorem dX12_trees_49 : decode cX12_trees 49 = .ok (.goto (-32), 3) := by decide +kernel
theorem dX12_trees_52 : decode cX12_trees 52 = .ok (.iinc 2 1, 3) := by decide +kernel
theorem dX12_trees_55 : decode cX12_trees 55 = .ok (.goto (-53), 3) := by decide +kernel
theorem dX12_trees_58 : decode cX12_trees 58 = .ok (.iconst 1, 1) := by decide +kernel
theorem dX12_trees_59 : decode cX12_trees 59 = .ok (.istore_n 2, 1) := by decide +kernel
theorem dX12_trees_60 : decode cX12_trees 60 = .ok (.iload_n 2, 1) := by decide +kernel
theorem dX12_trees_61 : decode cX12_trees 61 = .ok (.iconst 1, 1) := by decide +kernel
theorem dX12_trees_62 : decode cX12_trees 62 = .ok (.aload_n 0, 1) := by decide +kernel
theorem dX12_trees_63 : decode cX12_trees 63 = .ok (.getfield 164, 3) := by decide +kernel
theorem dX12_trees_66 : decode cX12_trees 66 = .ok (.ishl, 1) := by decide +kernel
theorem dX12_trees_67 : decode cX12_trees 67 = .ok (.if_icmp .ge 353, 3) := by decide +kernel
theorem dX12_trees_70 : decode cX12_trees 70 = .ok (.iload_n 2, 1) := by decide +kernel
theorem dX12_trees_71 : decode cX12_trees 71 = .ok (.invokestatic 177, 3) := by decide +kernel
theorem dX12_trees_74 : decode cX12_trees 74 = .ok (.istore_n 3, 1) := by decide +kernel
theorem dX12_trees_75 : decode cX12_trees 75 = .ok (.aload_n 0, 1) := by decide +kernel
theorem dX12_trees_76 : decode cX12_trees 76 = .ok (.getfield 63, 3) := by decide +kernel
theorem dX12_trees_79 : decode cX12_trees 79 = .ok (.iload_n 2, 1) := by decide +kernel
theorem dX12_trees_80 : decode cX12_trees 80 = .ok (.ldc 227, 2) := by decide +kernel
theorem dX12_trees_82 : decode cX12_trees 82 = .ok (.iastore, 1) := by decide +kernel
theorem dX12_trees_83 : decode cX12_trees 83 = .ok (.iconst 0, 1) := by decide +kernel
theorem dX12_trees_84 : decode cX12_trees 84 = .ok (.istore 4, 2) := by decide +kernel
theorem dX12_trees_86 : decode cX12_trees 86 = .ok (.iload 4, 2) := by decide +kernel
theorem dX12_trees_88 : decode cX12_trees 88 = .ok (.bipush 11, 2) := by decide +kernel
theorem dX12_trees_90 : decode cX12_trees 90 = .ok (.if_icmp .ge 24, 3) := by decide +kernel
theorem dX12_trees_93 : decode cX12_trees 93 = .ok (.aload_n 0, 1) := by decide +kernel
theorem dX12_trees_94 : decode cX12_trees 94 = .ok (.getfield 69, 3) := by decide +kernel
theorem dX12_trees_97 : decode cX12_trees 97 = .ok (.sipush 1024, 3) := by decide +kernel
theorem dX12_trees_100 : decode cX12_trees 100 = .ok (.iload 4, 2) := by decide +kernel
theorem dX12_trees_102 : decode cX12_trees 102 = .ok (.imul, 1) := by decide +kernel
theorem dX12_trees_103 : decode cX12_trees 103 = .ok (.iload_n 2, 1) := by decide +kernel
theorem dX12_trees_104 : decode cX12_trees 104 = .ok (.iadd, 1) := by decide +kernel
theorem dX12_trees_105 : decode cX12_trees 105 = .ok (.ldc 227, 2) := by decide +kernel
theorem dX12_trees_107 : decode cX12_trees 107 = .ok (.iastore, 1) := by decide +kernel
theorem dX12_trees_108 : decode cX12_trees 108 = .ok (.iinc 4 1, 3) := by decide +kernel
theorem dX12_trees_111 : decode cX12_trees 111 = .ok (.goto (-25), 3) := by decide +kernel
theorem dX12_trees_114 : decode cX12_trees 114 = .ok (.iconst 0, 1) := by decide +kernel
theorem dX12_trees_115 : decode cX12_trees 115 = .ok (.istore 4, 2) := by decide +kernel
theorem dX12_trees_117 : decode cX12_trees 117 = .ok (.iload 4, 2) := by decide +kernel
theorem dX12_trees_119 : decode cX12_trees 119 = .ok (.aload_n 0, 1) := by decide +kernel
theorem dX12_trees_120 : decode cX12_trees 120 = .ok (.getfield 16, 3) := by decide +kernel
theorem dX12_trees_123 : decode cX12_trees 123 = .ok (.if_icmp .ge 291, 3) := by decide +kernel
theorem dX12_trees_126 : decode cX12_trees 126 = .ok (.iload_n 1, 1) := by decide +kernel
theorem dX12_trees_127 : decode cX12_trees 127 = .ok (.iconst 1, 1) := by decide +kernel
theorem dX12_trees_128 : decode cX12_trees 128 = .ok (.if_icmp .eq 8, 3) := by decide +kernel
theorem dX12_trees_131 : decode cX12_trees 131 = .ok (.iload_n 3, 1) := by decide +kernel
theorem dX12_trees_132 : decode cX12_trees 132 = .ok (.iconst 1, 1) := by decide +kernel
theorem dX12_trees_133 : decode cX12_trees 133 = .ok (.if_icmp .ne 16, 3) := by decide +kernel
theorem dX12_trees_136 : decode cX12_trees 136 = .ok (.aload_n 0, 1) := by decide +kernel
theorem dX12_trees_137 : decode cX12_trees 137 = .ok (.iload 4, 2) := by decide +kernel
theorem dX12_trees_139 : decode cX12_trees 139 = .ok (.iload_n 2, 1) := by decide +kernel
theorem dX12_trees_140 : decode cX12_trees 140 = .ok (.invokevirtual 241, 3) := by decide +kernel
theorem dX12_trees_143 : decode cX12_trees 143 = .ok (.ifCond .ne 6, 3) := by decide +kernel
theorem dX12_trees_146 : decode cX12_trees 146 = .ok (.goto 262, 3) := by decide +kernel
theorem dX12_trees_149 : decode cX12_trees 149 = .ok (.aload_n 0, 1) := by decide +kernel
theorem dX12_trees_150 : decode cX12_trees 150 = .ok (.iload 4, 2) := by decide +kernel
theorem dX12_trees_152 : decode cX12_trees 152 = .ok (.iload_n 2, 1) := by decide +kernel
theorem dX12_trees_153 : decode cX12_trees 153 = .ok (.invokevirtual 245, 3) := by decide +kernel
theorem dX12_trees_156 : decode cX12_trees 156 = .ok (.iconst 1, 1) := by decide +kernel
theorem dX12_trees_157 : decode cX12_trees 157 = .ok (.if_icmp .ne 11, 3) := by decide +kernel
theorem dX12_trees_160 : decode cX12_trees 160 = .ok (.iload_n 3, 1) := by decide +kernel
theorem dX12_trees_161 : decode cX12_trees 161 = .ok (.iconst 1, 1) := by decide +kernel
theorem dX12_trees_162 : decode cX12_trees 162 = .ok (.if_icmp .le 6, 3) := by decide +kernel
theorem dX12_trees_165 : decode cX12_trees 165 = .ok (.goto 243, 3) := by decide +kernel
theorem dX12_trees_168 : decode cX12_trees 168 = .ok (.iconst 0, 1) := by decide +kernel
theorem dX12_trees_169 : decode cX12_trees 169 = .ok (.istore 5, 2) := by decide +kernel
theorem dX12_trees_171 : decode cX12_trees 171 = .ok (.iconst 0, 1) := by decide +kernel
theorem dX12_trees_172 : decode cX12_trees 172 = .ok (.istore 6, 2) := by decide +kernel
theorem dX12_trees_174 : decode cX12_trees 174 = .ok (.iload 6, 2) := by decide +kernel
theorem dX12_trees_176 : decode cX12_trees 176 = .ok (.aload_n 0, 1) := by decide +kernel
theorem dX12_trees_177 : decode cX12_trees 177 = .ok (.getfield 238, 3) := by decide +kernel
theorem dX12_trees_180 : decode cX12_trees 180 = .ok (.if_icmp .ge 40, 3) := by decide +kernel
theorem dX12_trees_183 : decode cX12_trees 183 = .ok (.aload_n 0, 1) := by decide +kernel
theorem dX12_trees_184 : decode cX12_trees 184 = .ok (.getfield 63, 3) := by decide +kernel
theorem dX12_trees_187 : decode cX12_trees 187 = .ok (.aload_n 0, 1) := by decide +kernel
theorem dX12_trees_188 : decode cX12_trees 188 = .ok (.getfield 79, 3) := by decide +kernel
theorem dX12_trees_191 : decode cX12_trees 191 = .ok (.iload 6, 2) := by decide +kernel
theorem dX12_trees_193 : decode cX12_trees 193 = .ok (.iaload, 1) := by decide +kernel
theorem dX12_trees_194 : decode cX12_trees 194 = .ok (.iaload, 1) := by decide +kernel
theorem dX12_trees_195 : decode cX12_trees 195 = .ok (.iload 5, 2) := by decide +kernel
theorem dX12_trees_197 : decode cX12_trees 197 = .ok (.if_icmp .le 17, 3) := by decide +kernel
theorem dX12_trees_200 : decode cX12_trees 200 = .ok (.aload_n 0, 1) := by decide +kernel
theorem dX12_trees_201 : decode cX12_trees 201 = .ok (.getfield 63, 3) := by decide +kernel
theorem dX12_trees_204 : decode cX12_trees 204 = .ok (.aload_n 0, 1) := by decide +kernel
theorem dX12_trees_205 : decode cX12_trees 205 = .ok (.getfield 79, 3) := by decide +kernel
theorem dX12_trees_208 : decode cX12_trees 208 = .ok (.iload 6, 2) := by decide +kernel
theorem dX12_trees_210 : decode cX12_trees 210 = .ok (.iaload, 1) := by decide +kernel
theorem dX12_trees_211 : decode cX12_trees 211 = .ok (.iaload, 1) := by decide +kernel
theorem dX12_trees_212 : decode cX12_trees 212 = .ok (.istore 5, 2) := by decide +kernel
theorem dX12_trees_214 : decode cX12_trees 214 = .ok (.iinc 6 1, 3) := by decide +kernel
theorem dX12_trees_217 : decode cX12_trees 217 = .ok (.goto (-43), 3) := by decide +kernel
theorem dX12_trees_220 : decode cX12_trees 220 = .ok (.iconst 1, 1) := by decide +kernel
theorem dX12_trees_221 : decode cX12_trees 221 = .ok (.iload 5, 2) := by decide +kernel
theorem dX12_trees_223 : decode cX12_trees 223 = .ok (.iadd, 1) := by decide +kernel
theorem dX12_trees_224 : decode cX12_trees 224 = .ok (.aload_n 0, 1) := by decide +kernel
theorem dX12_trees_225 : decode cX12_trees 225 = .ok (.getfield 63, 3) := by decide +kernel
theorem dX12_trees_228 : decode cX12_trees 228 = .ok (.iload_n 2, 1) := by decide +kernel
theorem dX12_trees_229 : decode cX12_trees 229 = .ok (.iaload, 1) := by decide +kernel
theorem dX12_trees_230 : decode cX12_trees 230 = .ok (.if_icmp .ge 21, 3) := by decide +kernel
theorem dX12_trees_233 : decode cX12_trees 233 = .ok (.aload_n 0, 1) := by decide +kernel
theorem dX12_trees_234 : decode cX12_trees 234 = .ok (.getfield 63, 3) := by decide +kernel
theorem dX12_trees_237 : decode cX12_trees 237 = .ok (.iload_n 2, 1) := by decide +kernel
theorem dX12_trees_238 : decode cX12_trees 238 = .ok (.iconst 1, 1) := by decide +kernel
theorem dX12_trees_239 : decode cX12_trees 239 = .ok (.iload 5, 2) := by decide +kernel
theorem dX12_trees_241 : decode cX12_trees 241 = .ok (.iadd, 1) := by decide +kernel
theorem dX12_trees_242 : decode cX12_trees 242 = .ok (.iastore, 1) := by decide +kernel
theorem dX12_trees_243 : decode cX12_trees 243 = .ok (.aload_n 0, 1) := by decide +kernel
theorem dX12_trees_244 : decode cX12_trees 244 = .ok (.getfield 66, 3) := by decide +kernel
theorem dX12_trees_247 : decode cX12_trees 247 = .ok (.iload_n 2, 1) := by decide +kernel
theorem dX12_trees_248 : decode cX12_trees 248 = .ok (.iload 4, 2) := by decide +kernel
theorem dX12_trees_250 : decode cX12_trees 250 = .ok (.iastore, 1) := by decide +kernel
theorem dX12_trees_251 : decode cX12_trees 251 = .ok (.iconst 0, 1) := by decide +kernel
theorem dX12_trees_252 : decode cX12_trees 252 = .ok (.istore 6, 2) := by decide +kernel
theorem dX12_trees_254 : decode cX12_trees 254 = .ok (.iload 6, 2) := by decide +kernel
theorem dX12_trees_256 : decode cX12_trees 256 = .ok (.bipush 11, 2) := by decide +kernel
theorem dX12_trees_258 : decode cX12_trees 258 = .ok (.if_icmp .ge 150, 3) := by decide +kernel
theorem dX12_trees_261 : decode cX12_trees 261 = .ok (.iload_n 3, 1) := by decide +kernel
theorem dX12_trees_262 : decode cX12_trees 262 = .ok (.istore 7, 2) := by decide +kernel
theorem dX12_trees_264 : decode cX12_trees 264 = .ok (.iconst 0, 1) := by decide +kernel
theorem dX12_trees_265 : decode cX12_trees 265 = .ok (.istore 8, 2) := by decide +kernel
theorem dX12_trees_267 : decode cX12_trees 267 = .ok (.iload 8, 2) := by decide +kernel
theorem dX12_trees_269 : decode cX12_trees 269 = .ok (.aload_n 0, 1) := by decide +kernel
theorem dX12_trees_270 : decode cX12_trees 270 = .ok (.getfield 238, 3) := by decide +kernel
theorem dX12_trees_273 : decode cX12_trees 273 = .ok (.if_icmp .ge 78, 3) := by decide +kernel
theorem dX12_trees_276 : decode cX12_trees 276 = .ok (.iload 6, 2) := by decide +kernel
theorem dX12_trees_278 : decode cX12_trees 278 = .ok (.iconst 1, 1) := by decide +kernel
theorem dX12_trees_279 : decode cX12_trees 279 = .ok (.if_icmp .ne 8, 3) := by decide +kernel
theorem dX12_trees_282 : decode cX12_trees 282 = .ok (.ldc 227, 2) := by decide +kernel
theorem dX12_trees_284 : decode cX12_trees 284 = .ok (.goto 33, 3) := by decide +kernel
theorem dX12_trees_287 : decode cX12_trees 287 = .ok (.aload_n 0, 1) := by decide +kernel
theorem dX12_trees_288 : decode cX12_trees 288 = .ok (.getfield 69, 3) := by decide +kernel
theorem dX12_trees_291 : decode cX12_trees 291 = .ok (.sipush 1024, 3) := by decide +kernel
theorem dX12_trees_294 : decode cX12_trees 294 = .ok (.iload 6, 2) := by decide +kernel
theorem dX12_trees_296 : decode cX12_trees 296 = .ok (.ifCond .ne 7, 3) := by decide +kernel
theorem dX12_trees_299 : decode cX12_trees 299 = .ok (.iconst 0, 1) := by decide +kernel
theorem dX12_trees_300 : decode cX12_trees 300 = .ok (.goto 7, 3) := by decide +kernel
theorem dX12_trees_303 : decode cX12_trees 303 = .ok (.iload 6, 2) := by decide +kernel
theorem dX12_trees_305 : decode cX12_trees 305 = .ok (.iconst 1, 1) := by decide +kernel
theorem dX12_trees_306 : decode cX12_trees 306 = .ok (.isub, 1) := by decide +kernel
theorem dX12_trees_307 : decode cX12_trees 307 = .ok (.imul, 1) := by decide +kernel
theorem dX12_trees_308 : decode cX12_trees 308 = .ok (.aload_n 0, 1) := by decide +kernel
theorem dX12_trees_309 : decode cX12_trees 309 = .ok (.getfield 79, 3) := by decide +kernel
theorem dX12_trees_312 : decode cX12_trees 312 = .ok (.iload 8, 2) := by decide +kernel
theorem dX12_trees_314 : decode cX12_trees 314 = .ok (.iaload, 1) := by decide +kernel
theorem dX12_trees_315 : decode cX12_trees 315 = .ok (.iadd, 1) := by decide +kernel
theorem dX12_trees_316 : decode cX12_trees 316 = .ok (.iaload, 1) := by decide +kernel
theorem dX12_trees_317 : decode cX12_trees 317 = .ok (.istore 9, 2) := by decide +kernel
theorem dX12_trees_319 : decode cX12_trees 319 = .ok (.iload 7, 2) := by decide +kernel
theorem dX12_trees_321 : decode cX12_trees 321 = .ok (.ldc 227, 2) := by decide +kernel
theorem dX12_trees_323 : decode cX12_trees 323 = .ok (.if_icmp .ge 10, 3) := by decide +kernel
theorem dX12_trees_326 : decode cX12_trees 326 = .ok (.iload 9, 2) := by decide +kernel
theorem dX12_trees_328 : decode cX12_trees 328 = .ok (.ldc 227, 2) := by decide +kernel
theorem dX12_trees_330 : decode cX12_trees 330 = .ok (.if_icmp .lt 8, 3) := by decide +kernel
theorem dX12_trees_333 : decode cX12_trees 333 = .ok (.ldc 227, 2) := by decide +kernel
theorem dX12_trees_335 : decode cX12_trees 335 = .ok (.goto 8, 3) := by decide +kernel
theorem dX12_trees_338 : decode cX12_trees 338 = .ok (.iload 7, 2) := by decide +kernel
theorem dX12_trees_340 : decode cX12_trees 340 = .ok (.iload 9, 2) := by decide +kernel
theorem dX12_trees_342 : decode cX12_trees 342 = .ok (.iadd, 1) := by decide +kernel
theorem dX12_trees_343 : decode cX12_trees 343 = .ok (.istore 7, 2) := by decide +kernel
theorem dX12_trees_345 : decode cX12_trees 345 = .ok (.iinc 8 1, 3) := by decide +kernel
theorem dX12_trees_348 : decode cX12_trees 348 = .ok (.goto (-81), 3) := by decide +kernel
theorem dX12_trees_351 : decode cX12_trees 351 = .ok (.iload 7, 2) := by decide +kernel
theorem dX12_trees_353 : decode cX12_trees 353 = .ok (.aload_n 0, 1) := by decide +kernel
theorem dX12_trees_354 : decode cX12_trees 354 = .ok (.getfield 69, 3) := by decide +kernel
theorem dX12_trees_357 : decode cX12_trees 357 = .ok (.sipush 1024, 3) := by decide +kernel
theorem dX12_trees_360 : decode cX12_trees 360 = .ok (.iload 6, 2) := by decide +kernel
theorem dX12_trees_362 : decode cX12_trees 362 = .ok (.imul, 1) := by decide +kernel
theorem dX12_trees_363 : decode cX12_trees 363 = .ok (.iload_n 2, 1) := by decide +kernel
theorem dX12_trees_364 : decode cX12_trees 364 = .ok (.iadd, 1) := by decide +kernel
theorem dX12_trees_365 : decode cX12_trees 365 = .ok (.iaload, 1) := by decide +kernel
theorem dX12_trees_366 : decode cX12_trees 366 = .ok (.if_icmp .lt 6, 3) := by decide +kernel
theorem dX12_trees_369 : decode cX12_trees 369 = .ok (.goto 33, 3) := by decide +kernel
theorem dX12_trees_372 : decode cX12_trees 372 = .ok (.aload_n 0, 1) := by decide +kernel
theorem dX12_trees_373 : decode cX12_trees 373 = .ok (.getfield 69, 3) := by decide +kernel
theorem dX12_trees_376 : decode cX12_trees 376 = .ok (.sipush 1024, 3) := by decide +kernel
theorem dX12_trees_379 : decode cX12_trees 379 = .ok (.iload 6, 2) := by decide +kernel
theorem dX12_trees_381 : decode cX12_trees 381 = .ok (.imul, 1) := by decide +kernel
theorem dX12_trees_382 : decode cX12_trees 382 = .ok (.iload_n 2, 1) := by decide +kernel
theorem dX12_trees_383 : decode cX12_trees 383 = .ok (.iadd, 1) := by decide +kernel
theorem dX12_trees_384 : decode cX12_trees 384 = .ok (.iload 7, 2) := by decide +kernel
theorem dX12_trees_386 : decode cX12_trees 386 = .ok (.iastore, 1) := by decide +kernel
theorem dX12_trees_387 : decode cX12_trees 387 = .ok (.aload_n 0, 1) := by decide +kernel
theorem dX12_trees_388 : decode cX12_trees 388 = .ok (.getfield 72, 3) := by decide +kernel
theorem dX12_trees_391 : decode cX12_trees 391 = .ok (.sipush 1024, 3) := by decide +kernel
theorem dX12_trees_394 : decode cX12_trees 394 = .ok (.iload 6, 2) := by decide +kernel
theorem dX12_trees_396 : decode cX12_trees 396 = .ok (.imul, 1) := by decide +kernel
theorem dX12_trees_397 : decode cX12_trees 397 = .ok (.iload_n 2, 1) := by decide +kernel
theorem dX12_trees_398 : decode cX12_trees 398 = .ok (.iadd, 1) := by decide +kernel
theorem dX12_trees_399 : decode cX12_trees 399 = .ok (.iload 4, 2) := by decide +kernel
theorem dX12_trees_401 : decode cX12_trees 401 = .ok (.iastore, 1) := by decide +kernel
theorem dX12_trees_402 : decode cX12_trees 402 = .ok (.iinc 6 1, 3) := by decide +kernel
theorem dX12_trees_405 : decode cX12_trees 405 = .ok (.goto (-151), 3) := by decide +kernel
theorem dX12_trees_408 : decode cX12_trees 408 = .ok (.iinc 4 1, 3) := by decide +kernel
theorem dX12_trees_411 : decode cX12_trees 411 = .ok (.goto (-294), 3) := by decide +kernel
theorem dX12_trees_414 : decode cX12_trees 414 = .ok (.iinc 2 1, 3) := by decide +kernel
theorem dX12_trees_417 : decode cX12_trees 417 = .ok (.goto (-357), 3) := by decide +kernel
theorem dX12_trees_420 : decode cX12_trees 420 = .ok (.return_, 1) := by decide +kernel
theorem dX12_row_0 : decode cX12_row 0 = .ok (.iload_n 0, 1) := by decide +kernel
theorem dX12_row_1 : decode cX12_row 1 = .ok (.bipush 10, 2) := by decide +kernel
theorem dX12_row_3 : decode cX12_row 3 = .ok (.if_icmp .le 7, 3) := by decide +kernel
theorem dX12_row_6 : decode cX12_row 6 = .ok (.iconst 0, 1) := by decide +kernel
theorem dX12_row_7 : decode cX12_row 7 = .ok (.goto 4, 3) := by decide +kernel
theorem dX12_row_10 : decode cX12_row 10 = .ok (.iload_n 0, 1) := by decide +kernel
theorem dX12_row_11 : decode cX12_row 11 = .ok (.ireturn, 1) := by decide +kernel
theorem dX12_least_0 : decode cX12_least 0 = .ok (.aload_n 0, 1) := by decide +kernel
theorem dX12_least_1 : decode cX12_least 1 = .ok (.iconst 0, 1) := by decide +kernel
theorem dX12_least_2 : decode cX12_least 2 = .ok (.putfield 139, 3) := by decide +kernel
theorem dX12_least_5 : decode cX12_least 5 = .ok (.aload_n 0, 1) := by decide +kernel
theorem dX12_least_6 : decode cX12_least 6 = .ok (.iload_n 1, 1) := by decide +kernel
theorem dX12_least_7 : decode cX12_least 7 = .ok (.invokevirtual 248, 3) := by decide +kernel
theorem dX12_least_10 : decode cX12_least 10 = .ok (.istore_n 2, 1) := by decide +kernel
theorem dX12_least_11 : decode cX12_least 11 = .ok (.iload_n 2, 1) := by decide +kernel
theorem dX12_least_12 : decode cX12_least 12 = .ok (.ifCond .eq 5, 3) := by decide +kernel
theorem dX12_least_15 : decode cX12_least 15 = .ok (.iload_n 2, 1) := by decide +kernel
theorem dX12_least_16 : decode cX12_least 16 = .ok (.ireturn, 1) := by decide +kernel
theorem dX12_least_17 : decode cX12_least 17 = .ok (.aload_n 0, 1) := by decide +kernel
theorem dX12_least_18 : decode cX12_least 18 = .ok (.iload_n 1, 1) := by decide +kernel
theorem dX12_least_19 : decode cX12_least 19 = .ok (.invokevirtual 251, 3) := by decide +kernel
theorem dX12_least_22 : decode cX12_least 22 = .ok (.aload_n 0, 1) := by decide +kernel
theorem dX12_least_23 : decode cX12_least 23 = .ok (.getfield 63, 3) := by decide +kernel
theorem dX12_least_26 : decode cX12_least 26 = .ok (.iconst 1, 1) := by decide +kernel
theorem dX12_least_27 : decode cX12_least 27 = .ok (.aload_n 0, 1) := by decide +kernel
theorem dX12_least_28 : decode cX12_least 28 = .ok (.getfield 164, 3) := by decide +kernel
theorem dX12_least_31 : decode cX12_least 31 = .ok (.ishl, 1) := by decide +kernel
theorem dX12_least_32 : decode cX12_least 32 = .ok (.iconst 1, 1) := by decide +kernel
theorem dX12_least_33 : decode cX12_least 33 = .ok (.isub, 1) := by decide +kernel
theorem dX12_least_34 : decode cX12_least 34 = .ok (.iaload, 1) := by decide +kernel
theorem dX12_least_35 : decode cX12_least 35 = .ok (.ireturn, 1) := by decide +kernel
theorem dX12_asked_0 : decode cX12_asked 0 = .ok (.iload_n 1, 1) := by decide +kernel
theorem dX12_asked_1 : decode cX12_asked 1 = .ok (.iconst 0, 1) := by decide +kernel
theorem dX12_asked_2 : decode cX12_asked 2 = .ok (.iconst 1, 1) := by decide +kernel
theorem dX12_asked_3 : decode cX12_asked 3 = .ok (.invokestatic 142, 3) := by decide +kernel
theorem dX12_asked_6 : decode cX12_asked 6 = .ok (.ifCond .eq 21, 3) := by decide +kernel
theorem dX12_asked_9 : decode cX12_asked 9 = .ok (.iload_n 2, 1) := by decide +kernel
theorem dX12_asked_10 : decode cX12_asked 10 = .ok (.iconst 0, 1) := by decide +kernel
theorem dX12_asked_11 : decode cX12_asked 11 = .ok (.bipush 20, 2) := by decide +kernel
theorem dX12_asked_13 : decode cX12_asked 13 = .ok (.invokestatic 142, 3) := by decide +kernel
theorem dX12_asked_16 : decode cX12_asked 16 = .ok (.ifCond .eq 11, 3) := by decide +kernel
theorem dX12_asked_19 : decode cX12_asked 19 = .ok (.aload_n 0, 1) := by decide +kernel
theorem dX12_asked_20 : decode cX12_asked 20 = .ok (.iload_n 1, 1) := by decide +kernel
theorem dX12_asked_21 : decode cX12_asked 21 = .ok (.invokevirtual 248, 3) := by decide +kernel
theorem dX12_asked_24 : decode cX12_asked 24 = .ok (.goto 4, 3) := by decide +kernel
theorem dX12_asked_27 : decode cX12_asked 27 = .ok (.iconst (-1), 1) := by decide +kernel
theorem dX12_asked_28 : decode cX12_asked 28 = .ok (.ireturn, 1) := by decide +kernel
theorem dX12_sum_0 : decode cX12_sum 0 = .ok (.aload_n 0, 1) := by decide +kernel
theorem dX12_sum_1 : decode cX12_sum 1 = .ok (.iconst 0, 1) := by decide +kernel
theorem dX12_sum_2 : decode cX12_sum 2 = .ok (.putfield 139, 3) := by decide +kernel
theorem dX12_sum_5 : decode cX12_sum 5 = .ok (.aload_n 0, 1) := by decide +kernel
theorem dX12_sum_6 : decode cX12_sum 6 = .ok (.iload_n 1, 1) := by decide +kernel
theorem dX12_sum_7 : decode cX12_sum 7 = .ok (.iload_n 2, 1) := by decide +kernel
theorem dX12_sum_8 : decode cX12_sum 8 = .ok (.invokevirtual 254, 3) := by decide +kernel
theorem dX12_sum_11 : decode cX12_sum 11 = .ok (.istore_n 3, 1) := by decide +kernel
theorem dX12_sum_12 : decode cX12_sum 12 = .ok (.iload_n 3, 1) := by decide +kernel
theorem dX12_sum_13 : decode cX12_sum 13 = .ok (.ifCond .eq 5, 3) := by decide +kernel
theorem dX12_sum_16 : decode cX12_sum 16 = .ok (.iload_n 3, 1) := by decide +kernel
theorem dX12_sum_17 : decode cX12_sum 17 = .ok (.ireturn, 1) := by decide +kernel
theorem dX12_sum_18 : decode cX12_sum 18 = .ok (.aload_n 0, 1) := by decide +kernel
theorem dX12_sum_19 : decode cX12_sum 19 = .ok (.iload_n 1, 1) := by decide +kernel
theorem dX12_sum_20 : decode cX12_sum 20 = .ok (.invokevirtual 251, 3) := by decide +kernel
theorem dX12_sum_23 : decode cX12_sum 23 = .ok (.aload_n 0, 1) := by decide +kernel
theorem dX12_sum_24 : decode cX12_sum 24 = .ok (.getfield 69, 3) := by decide +kernel
theorem dX12_sum_27 : decode cX12_sum 27 = .ok (.sipush 1024, 3) := by decide +kernel
theorem dX12_sum_30 : decode cX12_sum 30 = .ok (.iload_n 2, 1) := by decide +kernel
theorem dX12_sum_31 : decode cX12_sum 31 = .ok (.invokestatic 257, 3) := by decide +kernel
theorem dX12_sum_34 : decode cX12_sum 34 = .ok (.imul, 1) := by decide +kernel
theorem dX12_sum_35 : decode cX12_sum 35 = .ok (.iconst 1, 1) := by decide +kernel
theorem dX12_sum_36 : decode cX12_sum 36 = .ok (.aload_n 0, 1) := by decide +kernel
theorem dX12_sum_37 : decode cX12_sum 37 = .ok (.getfield 164, 3) := by decide +kernel
theorem dX12_sum_40 : decode cX12_sum 40 = .ok (.ishl, 1) := by decide +kernel
theorem dX12_sum_41 : decode cX12_sum 41 = .ok (.iadd, 1) := by decide +kernel
theorem dX12_sum_42 : decode cX12_sum 42 = .ok (.iconst 1, 1) := by decide +kernel
theorem dX12_sum_43 : decode cX12_sum 43 = .ok (.isub, 1) := by decide +kernel
theorem dX12_sum_44 : decode cX12_sum 44 = .ok (.iaload, 1) := by decide +kernel
theorem dX12_sum_45 : decode cX12_sum 45 = .ok (.istore 4, 2) := by decide +kernel
theorem dX12_sum_47 : decode cX12_sum 47 = .ok (.iload 4, 2) := by decide +kernel
theorem dX12_sum_49 : decode cX12_sum 49 = .ok (.ldc 227, 2) := by decide +kernel
theorem dX12_sum_51 : decode cX12_sum 51 = .ok (.if_icmp .lt 8, 3) := by decide +kernel
theorem dX12_sum_54 : decode cX12_sum 54 = .ok (.bipush (-7), 2) := by decide +kernel
theorem dX12_sum_56 : decode cX12_sum 56 = .ok (.goto 5, 3) := by decide +kernel
theorem dX12_sum_59 : decode cX12_sum 59 = .ok (.iload 4, 2) := by decide +kernel
theorem dX12_sum_61 : decode cX12_sum 61 = .ok (.ireturn, 1) := by decide +kernel
theorem dX12_best_0 : decode cX12_best 0 = .ok (.aload_n 0, 1) := by decide +kernel
theorem dX12_best_1 : decode cX12_best 1 = .ok (.iconst 0, 1) := by decide +kernel
theorem dX12_best_2 : decode cX12_best 2 = .ok (.putfield 139, 3) := by decide +kernel
theorem dX12_best_5 : decode cX12_best 5 = .ok (.iload_n 1, 1) := by decide +kernel
theorem dX12_best_6 : decode cX12_best 6 = .ok (.iconst 0, 1) := by decide +kernel
theorem dX12_best_7 : decode cX12_best 7 = .ok (.iconst 1, 1) := by decide +kernel
theorem dX12_best_8 : decode cX12_best 8 = .ok (.invokestatic 142, 3) := by decide +kernel
theorem dX12_best_11 : decode cX12_best 11 = .ok (.ifCond .ne 5, 3) := by decide +kernel
theorem dX12_best_14 : decode cX12_best 14 = .ok (.iconst (-1), 1) := by decide +kernel
theorem dX12_best_15 : decode cX12_best 15 = .ok (.ireturn, 1) := by decide +kernel
theorem dX12_best_16 : decode cX12_best 16 = .ok (.aload_n 0, 1) := by decide +kernel
theorem dX12_best_17 : decode cX12_best 17 = .ok (.iload_n 2, 1) := by decide +kernel
theorem dX12_best_18 : decode cX12_best 18 = .ok (.iload_n 3, 1) := by decide +kernel
theorem dX12_best_19 : decode cX12_best 19 = .ok (.invokevirtual 254, 3) := by decide +kernel
theorem dX12_best_22 : decode cX12_best 22 = .ok (.istore 4, 2) := by decide +kernel
theorem dX12_best_24 : decode cX12_best 24 = .ok (.iload 4, 2) := by decide +kernel
theorem dX12_best_26 : decode cX12_best 26 = .ok (.ifCond .eq 6, 3) := by decide +kernel
theorem dX12_best_29 : decode cX12_best 29 = .ok (.iload 4, 2) := by decide +kernel
theorem dX12_best_31 : decode cX12_best 31 = .ok (.ireturn, 1) := by decide +kernel
theorem dX12_best_32 : decode cX12_best 32 = .ok (.aload_n 0, 1) := by decide +kernel
theorem dX12_best_33 : decode cX12_best 33 = .ok (.iload_n 2, 1) := by decide +kernel
theorem dX12_best_34 : decode cX12_best 34 = .ok (.invokevirtual 251, 3) := by decide +kernel
theorem dX12_best_37 : decode cX12_best 37 = .ok (.iconst 1, 1) := by decide +kernel
theorem dX12_best_38 : decode cX12_best 38 = .ok (.aload_n 0, 1) := by decide +kernel
theorem dX12_best_39 : decode cX12_best 39 = .ok (.getfield 164, 3) := by decide +kernel
theorem dX12_best_42 : decode cX12_best 42 = .ok (.ishl, 1) := by decide +kernel
theorem dX12_best_43 : decode cX12_best 43 = .ok (.iconst 1, 1) := by decide +kernel
theorem dX12_best_44 : decode cX12_best 44 = .ok (.isub, 1) := by decide +kernel
theorem dX12_best_45 : decode cX12_best 45 = .ok (.istore 5, 2) := by decide +kernel
theorem dX12_best_47 : decode cX12_best 47 = .ok (.iload_n 1, 1) := by decide +kernel
theorem dX12_best_48 : decode cX12_best 48 = .ok (.ifCond .ne 11, 3) := by decide +kernel
theorem dX12_best_51 : decode cX12_best 51 = .ok (.aload_n 0, 1) := by decide +kernel
theorem dX12_best_52 : decode cX12_best 52 = .ok (.getfield 66, 3) := by decide +kernel
theorem dX12_best_55 : decode cX12_best 55 = .ok (.iload 5, 2) := by decide +kernel
theorem dX12_best_57 : decode cX12_best 57 = .ok (.iaload, 1) := by decide +kernel
theorem dX12_best_58 : decode cX12_best 58 = .ok (.ireturn, 1) := by decide +kernel
theorem dX12_best_59 : decode cX12_best 59 = .ok (.aload_n 0, 1) := by decide +kernel
theorem dX12_best_60 : decode cX12_best 60 = .ok (.getfield 69, 3) := by decide +kernel
theorem dX12_best_63 : decode cX12_best 63 = .ok (.sipush 1024, 3) := by decide +kernel
theorem dX12_best_66 : decode cX12_best 66 = .ok (.iload_n 3, 1) := by decide +kernel
theorem dX12_best_67 : decode cX12_best 67 = .ok (.invokestatic 257, 3) := by decide +kernel
theorem dX12_best_70 : decode cX12_best 70 = .ok (.imul, 1) := by decide +kernel
theorem dX12_best_71 : decode cX12_best 71 = .ok (.iload 5, 2) := by decide +kernel
theorem dX12_best_73 : decode cX12_best 73 = .ok (.iadd, 1) := by decide +kernel
theorem dX12_best_74 : decode cX12_best 74 = .ok (.iaload, 1) := by decide +kernel
theorem dX12_best_75 : decode cX12_best 75 = .ok (.ldc 227, 2) := by decide +kernel
theorem dX12_best_77 : decode cX12_best 77 = .ok (.if_icmp .lt 8, 3) := by decide +kernel
theorem dX12_best_80 : decode cX12_best 80 = .ok (.bipush (-7), 2) := by decide +kernel
theorem dX12_best_82 : decode cX12_best 82 = .ok (.goto 19, 3) := by decide +kernel
theorem dX12_best_85 : decode cX12_best 85 = .ok (.aload_n 0, 1) := by decide +kernel
theorem dX12_best_86 : decode cX12_best 86 = .ok (.getfield 72, 3) := by decide +kernel
theorem dX12_best_89 : decode cX12_best 89 = .ok (.sipush 1024, 3) := by decide +kernel
theorem dX12_best_92 : decode cX12_best 92 = .ok (.iload_n 3, 1) := by decide +kernel
theorem dX12_best_93 : decode cX12_best 93 = .ok (.invokestatic 257, 3) := by decide +kernel
theorem dX12_best_96 : decode cX12_best 96 = .ok (.imul, 1) := by decide +kernel
theorem dX12_best_97 : decode cX12_best 97 = .ok (.iload 5, 2) := by decide +kernel
theorem dX12_best_99 : decode cX12_best 99 = .ok (.iadd, 1) := by decide +kernel
theorem dX12_best_100 : decode cX12_best 100 = .ok (.iaload, 1) := by decide +kernel
theorem dX12_best_101 : decode cX12_best 101 = .ok (.ireturn, 1) := by decide +kernel
theorem dX12_tree_0 : decode cX12_tree 0 = .ok (.aload_n 0, 1) := by decide +kernel
theorem dX12_tree_1 : decode cX12_tree 1 = .ok (.iconst 0, 1) := by decide +kernel
theorem dX12_tree_2 : decode cX12_tree 2 = .ok (.putfield 139, 3) := by decide +kernel
theorem dX12_tree_5 : decode cX12_tree 5 = .ok (.aload_n 0, 1) := by decide +kernel
theorem dX12_tree_6 : decode cX12_tree 6 = .ok (.iload_n 1, 1) := by decide +kernel
theorem dX12_tree_7 : decode cX12_tree 7 = .ok (.iload_n 2, 1) := by decide +kernel
theorem dX12_tree_8 : decode cX12_tree 8 = .ok (.invokevirtual 254, 3) := by decide +kernel
theorem dX12_tree_11 : decode cX12_tree 11 = .ok (.istore_n 3, 1) := by decide +kernel
theorem dX12_tree_12 : decode cX12_tree 12 = .ok (.iload_n 3, 1) := by decide +kernel
theorem dX12_tree_13 : decode cX12_tree 13 = .ok (.ifCond .eq 5, 3) := by decide +kernel
theorem dX12_tree_16 : decode cX12_tree 16 = .ok (.iload_n 3, 1) := by decide +kernel
theorem dX12_tree_17 : decode cX12_tree 17 = .ok (.ireturn, 1) := by decide +kernel
theorem dX12_tree_18 : decode cX12_tree 18 = .ok (.aload_n 0, 1) := by decide +kernel
theorem dX12_tree_19 : decode cX12_tree 19 = .ok (.iload_n 1, 1) := by decide +kernel
theorem dX12_tree_20 : decode cX12_tree 20 = .ok (.invokevirtual 251, 3) := by decide +kernel
theorem dX12_tree_23 : decode cX12_tree 23 = .ok (.iconst 1, 1) := by decide +kernel
theorem dX12_tree_24 : decode cX12_tree 24 = .ok (.aload_n 0, 1) := by decide +kernel
theorem dX12_tree_25 : decode cX12_tree 25 = .ok (.getfield 164, 3) := by decide +kernel
theorem dX12_tree_28 : decode cX12_tree 28 = .ok (.ishl, 1) := by decide +kernel
theorem dX12_tree_29 : decode cX12_tree 29 = .ok (.iconst 1, 1) := by decide +kernel
theorem dX12_tree_30 : decode cX12_tree 30 = .ok (.isub, 1) := by decide +kernel
theorem dX12_tree_31 : decode cX12_tree 31 = .ok (.istore 4, 2) := by decide +kernel
theorem dX12_tree_33 : decode cX12_tree 33 = .ok (.iload_n 2, 1) := by decide +kernel
theorem dX12_tree_34 : decode cX12_tree 34 = .ok (.invokestatic 257, 3) := by decide +kernel
theorem dX12_tree_37 : decode cX12_tree 37 = .ok (.istore 5, 2) := by decide +kernel
theorem dX12_tree_39 : decode cX12_tree 39 = .ok (.aload_n 0, 1) := by decide +kernel
theorem dX12_tree_40 : decode cX12_tree 40 = .ok (.getfield 69, 3) := by decide +kernel
theorem dX12_tree_43 : decode cX12_tree 43 = .ok (.sipush 1024, 3) := by decide +kernel
theorem dX12_tree_46 : decode cX12_tree 46 = .ok (.iload 5, 2) := by decide +kernel
theorem dX12_tree_48 : decode cX12_tree 48 = .ok (.imul, 1) := by decide +kernel
theorem dX12_tree_49 : decode cX12_tree 49 = .ok (.iload 4, 2) := by decide +kernel
theorem dX12_tree_51 : decode cX12_tree 51 = .ok (.iadd, 1) := by decide +kernel
theorem dX12_tree_52 : decode cX12_tree 52 = .ok (.iaload, 1) := by decide +kernel
theorem dX12_tree_53 : decode cX12_tree 53 = .ok (.ldc 227, 2) := by decide +kernel
theorem dX12_tree_55 : decode cX12_tree 55 = .ok (.if_icmp .lt 6, 3) := by decide +kernel
theorem dX12_tree_58 : decode cX12_tree 58 = .ok (.bipush (-7), 2) := by decide +kernel
theorem dX12_tree_60 : decode cX12_tree 60 = .ok (.ireturn, 1) := by decide +kernel
theorem dX12_tree_61 : decode cX12_tree 61 = .ok (.aload_n 0, 1) := by decide +kernel
theorem dX12_tree_62 : decode cX12_tree 62 = .ok (.iconst 0, 1) := by decide +kernel
theorem dX12_tree_63 : decode cX12_tree 63 = .ok (.putfield 186, 3) := by decide +kernel
theorem dX12_tree_66 : decode cX12_tree 66 = .ok (.iconst 1, 1) := by decide +kernel
theorem dX12_tree_67 : decode cX12_tree 67 = .ok (.istore 6, 2) := by decide +kernel
theorem dX12_tree_69 : decode cX12_tree 69 = .ok (.aload_n 0, 1) := by decide +kernel
theorem dX12_tree_70 : decode cX12_tree 70 = .ok (.getfield 100, 3) := by decide +kernel
theorem dX12_tree_73 : decode cX12_tree 73 = .ok (.iconst 0, 1) := by decide +kernel
theorem dX12_tree_74 : decode cX12_tree 74 = .ok (.iload 4, 2) := by decide +kernel
theorem dX12_tree_76 : decode cX12_tree 76 = .ok (.iastore, 1) := by decide +kernel
theorem dX12_tree_77 : decode cX12_tree 77 = .ok (.aload_n 0, 1) := by decide +kernel
theorem dX12_tree_78 : decode cX12_tree 78 = .ok (.getfield 103, 3) := by decide +kernel
theorem dX12_tree_81 : decode cX12_tree 81 = .ok (.iconst 0, 1) := by decide +kernel
theorem dX12_tree_82 : decode cX12_tree 82 = .ok (.iconst (-1), 1) := by decide +kernel
theorem dX12_tree_83 : decode cX12_tree 83 = .ok (.iastore, 1) := by decide +kernel
theorem dX12_tree_84 : decode cX12_tree 84 = .ok (.aload_n 0, 1) := by decide +kernel
theorem dX12_tree_85 : decode cX12_tree 85 = .ok (.getfield 106, 3) := by decide +kernel
theorem dX12_tree_88 : decode cX12_tree 88 = .ok (.iconst 0, 1) := by decide +kernel
theorem dX12_tree_89 : decode cX12_tree 89 = .ok (.iconst (-1), 1) := by decide +kernel
theorem dX12_tree_90 : decode cX12_tree 90 = .ok (.iastore, 1) := by decide +kernel
theorem dX12_tree_91 : decode cX12_tree 91 = .ok (.aload_n 0, 1) := by decide +kernel
theorem dX12_tree_92 : decode cX12_tree 92 = .ok (.getfield 109, 3) := by decide +kernel
theorem dX12_tree_95 : decode cX12_tree 95 = .ok (.iconst 0, 1) := by decide +kernel
theorem dX12_tree_96 : decode cX12_tree 96 = .ok (.iconst 1, 1) := by decide +kernel
theorem dX12_tree_97 : decode cX12_tree 97 = .ok (.iastore, 1) := by decide +kernel
theorem dX12_tree_98 : decode cX12_tree 98 = .ok (.iload 6, 2) := by decide +kernel
theorem dX12_tree_100 : decode cX12_tree 100 = .ok (.ifCond .le 241, 3) := by decide +kernel
theorem dX12_tree_103 : decode cX12_tree 103 = .ok (.iinc 6 (-1), 3) := by decide +kernel
theorem dX12_tree_106 : decode cX12_tree 106 = .ok (.aload_n 0, 1) := by decide +kernel
theorem dX12_tree_107 : decode cX12_tree 107 = .ok (.getfield 100, 3) := by decide +kernel
theorem dX12_tree_110 : decode cX12_tree 110 = .ok (.iload 6, 2) := by decide +kernel
theorem dX12_tree_112 : decode cX12_tree 112 = .ok (.iaload, 1) := by decide +kernel
theorem dX12_tree_113 : decode cX12_tree 113 = .ok (.istore 7, 2) := by decide +kernel
theorem dX12_tree_115 : decode cX12_tree 115 = .ok (.aload_n 0, 1) := by decide +kernel
theorem dX12_tree_116 : decode cX12_tree 116 = .ok (.getfield 109, 3) := by decide +kernel
theorem dX12_tree_119 : decode cX12_tree 119 = .ok (.iload 6, 2) := by decide +kernel
theorem dX12_tree_121 : decode cX12_tree 121 = .ok (.iaload, 1) := by decide +kernel
theorem dX12_tree_122 : decode cX12_tree 122 = .ok (.istore 8, 2) := by decide +kernel
theorem dX12_tree_124 : decode cX12_tree 124 = .ok (.aload_n 0, 1) := by decide +kernel
theorem dX12_tree_125 : decode cX12_tree 125 = .ok (.getfield 72, 3) := by decide +kernel
theorem dX12_tree_128 : decode cX12_tree 128 = .ok (.sipush 1024, 3) := by decide +kernel
theorem dX12_tree_131 : decode cX12_tree 131 = .ok (.iload 5, 2) := by decide +kernel
theorem dX12_tree_133 : decode cX12_tree 133 = .ok (.ifCond .ne 7, 3) := by decide +kernel
theorem dX12_tree_136 : decode cX12_tree 136 = .ok (.iconst 0, 1) := by decide +kernel
theorem dX12_tree_137 : decode cX12_tree 137 = .ok (.goto 10, 3) := by decide +kernel
theorem dX12_tree_140 : decode cX12_tree 140 = .ok (.iload 5, 2) := by decide +kernel
theorem dX12_tree_142 : decode cX12_tree 142 = .ok (.iload 8, 2) := by decide +kernel
theorem dX12_tree_144 : decode cX12_tree 144 = .ok (.isub, 1) := by decide +kernel
theorem dX12_tree_145 : decode cX12_tree 145 = .ok (.iconst 1, 1) := by decide +kernel
theorem dX12_tree_146 : decode cX12_tree 146 = .ok (.iadd, 1) := by decide +kernel
theorem dX12_tree_147 : decode cX12_tree 147 = .ok (.imul, 1) := by decide +kernel
theorem dX12_tree_148 : decode cX12_tree 148 = .ok (.iload 7, 2) := by decide +kernel
theorem dX12_tree_150 : decode cX12_tree 150 = .ok (.iadd, 1) := by decide +kernel
theorem dX12_tree_151 : decode cX12_tree 151 = .ok (.iaload, 1) := by decide +kernel
theorem dX12_tree_152 : decode cX12_tree 152 = .ok (.istore 9, 2) := by decide +kernel
theorem dX12_tree_154 : decode cX12_tree 154 = .ok (.aload_n 0, 1) := by decide +kernel
theorem dX12_tree_155 : decode cX12_tree 155 = .ok (.getfield 85, 3) := by decide +kernel
theorem dX12_tree_158 : decode cX12_tree 158 = .ok (.aload_n 0, 1) := by decide +kernel
theorem dX12_tree_159 : decode cX12_tree 159 = .ok (.getfield 186, 3) := by decide +kernel
theorem dX12_tree_162 : decode cX12_tree 162 = .ok (.iload 9, 2) := by decide +kernel
theorem dX12_tree_164 : decode cX12_tree 164 = .ok (.iastore, 1) := by decide +kernel
theorem dX12_tree_165 : decode cX12_tree 165 = .ok (.aload_n 0, 1) := by decide +kernel
theorem dX12_tree_166 : decode cX12_tree 166 = .ok (.getfield 88, 3) := by decide +kernel
theorem dX12_tree_169 : decode cX12_tree 169 = .ok (.aload_n 0, 1) := by decide +kernel
theorem dX12_tree_170 : decode cX12_tree 170 = .ok (.getfield 186, 3) := by decide +kernel
theorem dX12_tree_173 : decode cX12_tree 173 = .ok (.aload_n 0, 1) := by decide +kernel
theorem dX12_tree_174 : decode cX12_tree 174 = .ok (.getfield 103, 3) := by decide +kernel
theorem dX12_tree_177 : decode cX12_tree 177 = .ok (.iload 6, 2) := by decide +kernel
theorem dX12_tree_179 : decode cX12_tree 179 = .ok (.iaload, 1) := by decide +kernel
theorem dX12_tree_180 : decode cX12_tree 180 = .ok (.iastore, 1) := by decide +kernel
theorem dX12_tree_181 : decode cX12_tree 181 = .ok (.aload_n 0, 1) := by decide +kernel
theorem dX12_tree_182 : decode cX12_tree 182 = .ok (.getfield 91, 3) := by decide +kernel
theorem dX12_tree_185 : decode cX12_tree 185 = .ok (.aload_n 0, 1) := by decide +kernel
theorem dX12_tree_186 : decode cX12_tree 186 = .ok (.getfield 186, 3) := by decide +kernel
theorem dX12_tree_189 : decode cX12_tree 189 = .ok (.aload_n 0, 1) := by decide +kernel
theorem dX12_tree_190 : decode cX12_tree 190 = .ok (.getfield 106, 3) := by decide +kernel
theorem dX12_tree_193 : decode cX12_tree 193 = .ok (.iload 6, 2) := by decide +kernel
theorem dX12_tree_195 : decode cX12_tree 195 = .ok (.iaload, 1) := by decide +kernel
theorem dX12_tree_196 : decode cX12_tree 196 = .ok (.iastore, 1) := by decide +kernel
theorem dX12_tree_197 : decode cX12_tree 197 = .ok (.aload_n 0, 1) := by decide +kernel
theorem dX12_tree_198 : decode cX12_tree 198 = .ok (.getfield 94, 3) := by decide +kernel
theorem dX12_tree_201 : decode cX12_tree 201 = .ok (.aload_n 0, 1) := by decide +kernel
theorem dX12_tree_202 : decode cX12_tree 202 = .ok (.getfield 186, 3) := by decide +kernel
theorem dX12_tree_205 : decode cX12_tree 205 = .ok (.iload 7, 2) := by decide +kernel
theorem dX12_tree_207 : decode cX12_tree 207 = .ok (.invokestatic 177, 3) := by decide +kernel
theorem dX12_tree_210 : decode cX12_tree 210 = .ok (.iastore, 1) := by decide +kernel
theorem dX12_tree_211 : decode cX12_tree 211 = .ok (.aload_n 0, 1) := by decide +kernel
theorem dX12_tree_212 : decode cX12_tree 212 = .ok (.getfield 97, 3) := by decide +kernel
theorem dX12_tree_215 : decode cX12_tree 215 = .ok (.aload_n 0, 1) := by decide +kernel
theorem dX12_tree_216 : decode cX12_tree 216 = .ok (.getfield 186, 3) := by decide +kernel
theorem dX12_tree_219 : decode cX12_tree 219 = .ok (.iload 8, 2) := by decide +kernel
theorem dX12_tree_221 : decode cX12_tree 221 = .ok (.iastore, 1) := by decide +kernel
theorem dX12_tree_222 : decode cX12_tree 222 = .ok (.aload_n 0, 1) := by decide +kernel
theorem dX12_tree_223 : decode cX12_tree 223 = .ok (.iload 9, 2) := by decide +kernel
theorem dX12_tree_225 : decode cX12_tree 225 = .ok (.iload 7, 2) := by decide +kernel
theorem dX12_tree_227 : decode cX12_tree 227 = .ok (.invokevirtual 245, 3) := by decide +kernel
theorem dX12_tree_230 : decode cX12_tree 230 = .ok (.istore 10, 2) := by decide +kernel
theorem dX12_tree_232 : decode cX12_tree 232 = .ok (.bipush 59, 2) := by decide +kernel
theorem dX12_tree_234 : decode cX12_tree 234 = .ok (.istore 11, 2) := by decide +kernel
theorem dX12_tree_236 : decode cX12_tree 236 = .ok (.iload 11, 2) := by decide +kernel
theorem dX12_tree_238 : decode cX12_tree 238 = .ok (.ifCond .lt 90, 3) := by decide +kernel
theorem dX12_tree_241 : decode cX12_tree 241 = .ok (.iconst 0, 1) := by decide +kernel
theorem dX12_tree_242 : decode cX12_tree 242 = .ok (.istore 12, 2) := by decide +kernel
theorem dX12_tree_244 : decode cX12_tree 244 = .ok (.iload 12, 2) := by decide +kernel
theorem dX12_tree_246 : decode cX12_tree 246 = .ok (.aload_n 0, 1) := by decide +kernel
theorem dX12_tree_247 : decode cX12_tree 247 = .ok (.getfield 238, 3) := by decide +kernel
theorem dX12_tree_250 : decode cX12_tree 250 = .ok (.if_icmp .ge 72, 3) := by decide +kernel
theorem dX12_tree_253 : decode cX12_tree 253 = .ok (.aload_n 0, 1) := by decide +kernel
theorem dX12_tree_254 : decode cX12_tree 254 = .ok (.getfield 82, 3) := by decide +kernel
theorem dX12_tree_257 : decode cX12_tree 257 = .ok (.iload 12, 2) := by decide +kernel
theorem dX12_tree_259 : decode cX12_tree 259 = .ok (.iaload, 1) := by decide +kernel
theorem dX12_tree_260 : decode cX12_tree 260 = .ok (.iload 11, 2) := by decide +kernel
theorem dX12_tree_262 : decode cX12_tree 262 = .ok (.if_icmp .eq 6, 3) := by decide +kernel
theorem dX12_tree_265 : decode cX12_tree 265 = .ok (.goto 51, 3) := by decide +kernel
theorem dX12_tree_268 : decode cX12_tree 268 = .ok (.aload_n 0, 1) := by decide +kernel
theorem dX12_tree_269 : decode cX12_tree 269 = .ok (.getfield 100, 3) := by decide +kernel
theorem dX12_tree_272 : decode cX12_tree 272 = .ok (.iload 6, 2) := by decide +kernel
theorem dX12_tree_274 : decode cX12_tree 274 = .ok (.aload_n 0, 1) := by decide +kernel
theorem dX12_tree_275 : decode cX12_tree 275 = .ok (.getfield 79, 3) := by decide +kernel
theorem dX12_tree_278 : decode cX12_tree 278 = .ok (.iload 12, 2) := by decide +kernel
theorem dX12_tree_280 : decode cX12_tree 280 = .ok (.iaload, 1) := by decide +kernel
theorem dX12_tree_281 : decode cX12_tree 281 = .ok (.iastore, 1) := by decide +kernel
theorem dX12_tree_282 : decode cX12_tree 282 = .ok (.aload_n 0, 1) := by decide +kernel
theorem dX12_tree_283 : decode cX12_tree 283 = .ok (.getfield 103, 3) := by decide +kernel
theorem dX12_tree_286 : decode cX12_tree 286 = .ok (.iload 6, 2) := by decide +kernel
theorem dX12_tree_288 : decode cX12_tree 288 = .ok (.aload_n 0, 1) := by decide +kernel
theorem dX12_tree_289 : decode cX12_tree 289 = .ok (.getfield 186, 3) := by decide +kernel
theorem dX12_tree_292 : decode cX12_tree 292 = .ok (.iastore, 1) := by decide +kernel
theorem dX12_tree_293 : decode cX12_tree 293 = .ok (.aload_n 0, 1) := by decide +kernel
theorem dX12_tree_294 : decode cX12_tree 294 = .ok (.getfield 106, 3) := by decide +kernel
theorem dX12_tree_297 : decode cX12_tree 297 = .ok (.iload 6, 2) := by decide +kernel
theorem dX12_tree_299 : decode cX12_tree 299 = .ok (.iload 11, 2) := by decide +kernel
theorem dX12_tree_301 : decode cX12_tree 301 = .ok (.iastore, 1) := by decide +kernel
theorem dX12_tree_302 : decode cX12_tree 302 = .ok (.aload_n 0, 1) := by decide +kernel
theorem dX12_tree_303 : decode cX12_tree 303 = .ok (.getfield 109, 3) := by decide +kernel
theorem dX12_tree_306 : decode cX12_tree 306 = .ok (.iload 6, 2) := by decide +kernel
theorem dX12_tree_308 : decode cX12_tree 308 = .ok (.iload 8, 2) := by decide +kernel
theorem dX12_tree_310 : decode cX12_tree 310 = .ok (.iconst 1, 1) := by decide +kernel
theorem dX12_tree_311 : decode cX12_tree 311 = .ok (.iadd, 1) := by decide +kernel
theorem dX12_tree_312 : decode cX12_tree 312 = .ok (.iastore, 1) := by decide +kernel
theorem dX12_tree_313 : decode cX12_tree 313 = .ok (.iinc 6 1, 3) := by decide +kernel
theorem dX12_tree_316 : decode cX12_tree 316 = .ok (.iinc 12 1, 3) := by decide +kernel
theorem dX12_tree_319 : decode cX12_tree 319 = .ok (.goto (-75), 3) := by decide +kernel
theorem dX12_tree_322 : decode cX12_tree 322 = .ok (.iinc 11 (-1), 3) := by decide +kernel
theorem dX12_tree_325 : decode cX12_tree 325 = .ok (.goto (-89), 3) := by decide +kernel
theorem dX12_tree_328 : decode cX12_tree 328 = .ok (.aload_n 0, 1) := by decide +kernel
theorem dX12_tree_329 : decode cX12_tree 329 = .ok (.dup, 1) := by decide +kernel
theorem dX12_tree_330 : decode cX12_tree 330 = .ok (.getfield 186, 3) := by decide +kernel
theorem dX12_tree_333 : decode cX12_tree 333 = .ok (.iconst 1, 1) := by decide +kernel
theorem dX12_tree_334 : decode cX12_tree 334 = .ok (.iadd, 1) := by decide +kernel
theorem dX12_tree_335 : decode cX12_tree 335 = .ok (.putfield 186, 3) := by decide +kernel
theorem dX12_tree_338 : decode cX12_tree 338 = .ok (.goto (-240), 3) := by decide +kernel
theorem dX12_tree_341 : decode cX12_tree 341 = .ok (.aload_n 0, 1) := by decide +kernel
theorem dX12_tree_342 : decode cX12_tree 342 = .ok (.getfield 186, 3) := by decide +kernel
theorem dX12_tree_345 : decode cX12_tree 345 = .ok (.ireturn, 1) := by decide +kernel
theorem dX12_node_0 : decode cX12_node 0 = .ok (.aload_n 0, 1) := by decide +kernel
theorem dX12_node_1 : decode cX12_node 1 = .ok (.iconst 0, 1) := by decide +kernel
theorem dX12_node_2 : decode cX12_node 2 = .ok (.putfield 139, 3) := by decide +kernel
theorem dX12_node_5 : decode cX12_node 5 = .ok (.iload_n 1, 1) := by decide +kernel
theorem dX12_node_6 : decode cX12_node 6 = .ok (.iconst 0, 1) := by decide +kernel
theorem dX12_node_7 : decode cX12_node 7 = .ok (.aload_n 0, 1) := by decide +kernel
theorem dX12_node_8 : decode cX12_node 8 = .ok (.getfield 186, 3) := by decide +kernel
theorem dX12_node_11 : decode cX12_node 11 = .ok (.iconst 1, 1) := by decide +kernel
theorem dX12_node_12 : decode cX12_node 12 = .ok (.isub, 1) := by decide +kernel
theorem dX12_node_13 : decode cX12_node 13 = .ok (.invokestatic 142, 3) := by decide +kernel
theorem dX12_node_16 : decode cX12_node 16 = .ok (.ifCond .ne 5, 3) := by decide +kernel
theorem dX12_node_19 : decode cX12_node 19 = .ok (.iconst (-1), 1) := by decide +kernel
theorem dX12_node_20 : decode cX12_node 20 = .ok (.ireturn, 1) := by decide +kernel
theorem dX12_node_21 : decode cX12_node 21 = .ok (.iload_n 2, 1) := by decide +kernel
theorem dX12_node_22 : decode cX12_node 22 = .ok (.tableswitch 69 0 4 #[34, 41, 48, 55, 62], 34) := by decide +kernel
theorem dX12_node_56 : decode cX12_node 56 = .ok (.aload_n 0, 1) := by decide +kernel
theorem dX12_node_57 : decode cX12_node 57 = .ok (.getfield 85, 3) := by decide +kernel
theorem dX12_node_60 : decode cX12_node 60 = .ok (.iload_n 1, 1) := by decide +kernel
theorem dX12_node_61 : decode cX12_node 61 = .ok (.iaload, 1) := by decide +kernel
theorem dX12_node_62 : decode cX12_node 62 = .ok (.ireturn, 1) := by decide +kernel
theorem dX12_node_63 : decode cX12_node 63 = .ok (.aload_n 0, 1) := by decide +kernel
theorem dX12_node_64 : decode cX12_node 64 = .ok (.getfield 88, 3) := by decide +kernel
theorem dX12_node_67 : decode cX12_node 67 = .ok (.iload_n 1, 1) := by decide +kernel
theorem dX12_node_68 : decode cX12_node 68 = .ok (.iaload, 1) := by decide +kernel
theorem dX12_node_69 : decode cX12_node 69 = .ok (.ireturn, 1) := by decide +kernel
theorem dX12_node_70 : decode cX12_node 70 = .ok (.aload_n 0, 1) := by decide +kernel
theorem dX12_node_71 : decode cX12_node 71 = .ok (.getfield 91, 3) := by decide +kernel
theorem dX12_node_74 : decode cX12_node 74 = .ok (.iload_n 1, 1) := by decide +kernel
theorem dX12_node_75 : decode cX12_node 75 = .ok (.iaload, 1) := by decide +kernel
theorem dX12_node_76 : decode cX12_node 76 = .ok (.ireturn, 1) := by decide +kernel
theorem dX12_node_77 : decode cX12_node 77 = .ok (.aload_n 0, 1) := by decide +kernel
theorem dX12_node_78 : decode cX12_node 78 = .ok (.getfield 94, 3) := by decide +kernel
theorem dX12_node_81 : decode cX12_node 81 = .ok (.iload_n 1, 1) := by decide +kernel
theorem dX12_node_82 : decode cX12_node 82 = .ok (.iaload, 1) := by decide +kernel
theorem dX12_node_83 : decode cX12_node 83 = .ok (.ireturn, 1) := by decide +kernel
theorem dX12_node_84 : decode cX12_node 84 = .ok (.aload_n 0, 1) := by decide +kernel
theorem dX12_node_85 : decode cX12_node 85 = .ok (.getfield 97, 3) := by decide +kernel
theorem dX12_node_88 : decode cX12_node 88 = .ok (.iload_n 1, 1) := by decide +kernel
theorem dX12_node_89 : decode cX12_node 89 = .ok (.iaload, 1) := by decide +kernel
theorem dX12_node_90 : decode cX12_node 90 = .ok (.ireturn, 1) := by decide +kernel
theorem dX12_node_91 : decode cX12_node 91 = .ok (.iconst (-1), 1) := by decide +kernel
theorem dX12_node_92 : decode cX12_node 92 = .ok (.ireturn, 1) := by decide +kernel
theorem dX12_plan_0 : decode cX12_plan 0 = .ok (.aload_n 0, 1) := by decide +kernel
theorem dX12_plan_1 : decode cX12_plan 1 = .ok (.iconst 0, 1) := by decide +kernel
theorem dX12_plan_2 : decode cX12_plan 2 = .ok (.putfield 139, 3) := by decide +kernel
theorem dX12_plan_5 : decode cX12_plan 5 = .ok (.aload_n 0, 1) := by decide +kernel
theorem dX12_plan_6 : decode cX12_plan 6 = .ok (.getfield 189, 3) := by decide +kernel
theorem dX12_plan_9 : decode cX12_plan 9 = .ok (.ifCond .ne 16, 3) := by decide +kernel
theorem dX12_plan_12 : decode cX12_plan 12 = .ok (.iload_n 1, 1) := by decide +kernel
theorem dX12_plan_13 : decode cX12_plan 13 = .ok (.iconst (-1), 1) := by decide +kernel
theorem dX12_plan_14 : decode cX12_plan 14 = .ok (.if_icmp .ne 7, 3) := by decide +kernel
theorem dX12_plan_17 : decode cX12_plan 17 = .ok (.iconst 1, 1) := by decide +kernel
theorem dX12_plan_18 : decode cX12_plan 18 = .ok (.goto 34, 3) := by decide +kernel
theorem dX12_plan_21 : decode cX12_plan 21 = .ok (.iconst 0, 1) := by decide +kernel
theorem dX12_plan_22 : decode cX12_plan 22 = .ok (.goto 30, 3) := by decide +kernel
theorem dX12_plan_25 : decode cX12_plan 25 = .ok (.iload_n 1, 1) := by decide +kernel
theorem dX12_plan_26 : decode cX12_plan 26 = .ok (.iconst 0, 1) := by decide +kernel
theorem dX12_plan_27 : decode cX12_plan 27 = .ok (.aload_n 0, 1) := by decide +kernel
theorem dX12_plan_28 : decode cX12_plan 28 = .ok (.getfield 189, 3) := by decide +kernel
theorem dX12_plan_31 : decode cX12_plan 31 = .ok (.iconst 1, 1) := by decide +kernel
theorem dX12_plan_32 : decode cX12_plan 32 = .ok (.isub, 1) := by decide +kernel
theorem dX12_plan_33 : decode cX12_plan 33 = .ok (.invokestatic 142, 3) := by decide +kernel
theorem dX12_plan_36 : decode cX12_plan 36 = .ok (.ifCond .eq 15, 3) := by decide +kernel
theorem dX12_plan_39 : decode cX12_plan 39 = .ok (.aload_n 0, 1) := by decide +kernel
theorem dX12_plan_40 : decode cX12_plan 40 = .ok (.iload_n 2, 1) := by decide +kernel
theorem dX12_plan_41 : decode cX12_plan 41 = .ok (.invokevirtual 217, 3) := by decide +kernel
theorem dX12_plan_44 : decode cX12_plan 44 = .ok (.ifCond .eq 7, 3) := by decide +kernel
theorem dX12_plan_47 : decode cX12_plan 47 = .ok (.iconst 1, 1) := by decide +kernel
theorem dX12_plan_48 : decode cX12_plan 48 = .ok (.goto 4, 3) := by decide +kernel
theorem dX12_plan_51 : decode cX12_plan 51 = .ok (.iconst 0, 1) := by decide +kernel
theorem dX12_plan_52 : decode cX12_plan 52 = .ok (.istore 4, 2) := by decide +kernel
theorem dX12_plan_54 : decode cX12_plan 54 = .ok (.iload 4, 2) := by decide +kernel
theorem dX12_plan_56 : decode cX12_plan 56 = .ok (.ifCond .eq 11, 3) := by decide +kernel
theorem dX12_plan_59 : decode cX12_plan 59 = .ok (.aload_n 0, 1) := by decide +kernel
theorem dX12_plan_60 : decode cX12_plan 60 = .ok (.iload_n 3, 1) := by decide +kernel
theorem dX12_plan_61 : decode cX12_plan 61 = .ok (.invokevirtual 199, 3) := by decide +kernel
theorem dX12_plan_64 : decode cX12_plan 64 = .ok (.ifCond .ne 5, 3) := by decide +kernel
theorem dX12_plan_67 : decode cX12_plan 67 = .ok (.iconst (-1), 1) := by decide +kernel
theorem dX12_plan_68 : decode cX12_plan 68 = .ok (.ireturn, 1) := by decide +kernel
theorem dX12_plan_69 : decode cX12_plan 69 = .ok (.aload_n 0, 1) := by decide +kernel
theorem dX12_plan_70 : decode cX12_plan 70 = .ok (.getfield 189, 3) := by decide +kernel
theorem dX12_plan_73 : decode cX12_plan 73 = .ok (.bipush 40, 2) := by decide +kernel
theorem dX12_plan_75 : decode cX12_plan 75 = .ok (.if_icmp .ne 6, 3) := by decide +kernel
theorem dX12_plan_78 : decode cX12_plan 78 = .ok (.bipush (-2), 2) := by decide +kernel
theorem dX12_plan_80 : decode cX12_plan 80 = .ok (.ireturn, 1) := by decide +kernel
theorem dX12_plan_81 : decode cX12_plan 81 = .ok (.aload_n 0, 1) := by decide +kernel
theorem dX12_plan_82 : decode cX12_plan 82 = .ok (.getfield 112, 3) := by decide +kernel
theorem dX12_plan_85 : decode cX12_plan 85 = .ok (.aload_n 0, 1) := by decide +kernel
theorem dX12_plan_86 : decode cX12_plan 86 = .ok (.getfield 189, 3) := by decide +kernel
theorem dX12_plan_89 : decode cX12_plan 89 = .ok (.iload_n 1, 1) := by decide +kernel
theorem dX12_plan_90 : decode cX12_plan 90 = .ok (.iastore, 1) := by decide +kernel
theorem dX12_plan_91 : decode cX12_plan 91 = .ok (.aload_n 0, 1) := by decide +kernel
theorem dX12_plan_92 : decode cX12_plan 92 = .ok (.getfield 115, 3) := by decide +kernel
theorem dX12_plan_95 : decode cX12_plan 95 = .ok (.aload_n 0, 1) := by decide +kernel
theorem dX12_plan_96 : decode cX12_plan 96 = .ok (.getfield 189, 3) := by decide +kernel
theorem dX12_plan_99 : decode cX12_plan 99 = .ok (.iload_n 2, 1) := by decide +kernel
theorem dX12_plan_100 : decode cX12_plan 100 = .ok (.iastore, 1) := by decide +kernel
theorem dX12_plan_101 : decode cX12_plan 101 = .ok (.aload_n 0, 1) := by decide +kernel
theorem dX12_plan_102 : decode cX12_plan 102 = .ok (.getfield 118, 3) := by decide +kernel
theorem dX12_plan_105 : decode cX12_plan 105 = .ok (.aload_n 0, 1) := by decide +kernel
theorem dX12_plan_106 : decode cX12_plan 106 = .ok (.getfield 189, 3) := by decide +kernel
theorem dX12_plan_109 : decode cX12_plan 109 = .ok (.iload_n 3, 1) := by decide +kernel
theorem dX12_plan_110 : decode cX12_plan 110 = .ok (.iastore, 1) := by decide +kernel
theorem dX12_plan_111 : decode cX12_plan 111 = .ok (.aload_n 0, 1) := by decide +kernel
theorem dX12_plan_112 : decode cX12_plan 112 = .ok (.dup, 1) := by decide +kernel
theorem dX12_plan_113 : decode cX12_plan 113 = .ok (.getfield 189, 3) := by decide +kernel
theorem dX12_plan_116 : decode cX12_plan 116 = .ok (.iconst 1, 1) := by decide +kernel
theorem dX12_plan_117 : decode cX12_plan 117 = .ok (.iadd, 1) := by decide +kernel
theorem dX12_plan_118 : decode cX12_plan 118 = .ok (.putfield 189, 3) := by decide +kernel
theorem dX12_plan_121 : decode cX12_plan 121 = .ok (.aload_n 0, 1) := by decide +kernel
theorem dX12_plan_122 : decode cX12_plan 122 = .ok (.getfield 189, 3) := by decide +kernel
theorem dX12_plan_125 : decode cX12_plan 125 = .ok (.iconst 1, 1) := by decide +kernel
theorem dX12_plan_126 : decode cX12_plan 126 = .ok (.isub, 1) := by decide +kernel
theorem dX12_plan_127 : decode cX12_plan 127 = .ok (.ireturn, 1) := by decide +kernel
theorem dX12_drop_0 : decode cX12_drop 0 = .ok (.aload_n 0, 1) := by decide +kernel
theorem dX12_drop_1 : decode cX12_drop 1 = .ok (.iconst 0, 1) := by decide +kernel
theorem dX12_drop_2 : decode cX12_drop 2 = .ok (.putfield 139, 3) := by decide +kernel
theorem dX12_drop_5 : decode cX12_drop 5 = .ok (.aload_n 0, 1) := by decide +kernel
theorem dX12_drop_6 : decode cX12_drop 6 = .ok (.getfield 189, 3) := by decide +kernel
theorem dX12_drop_9 : decode cX12_drop 9 = .ok (.istore_n 1, 1) := by decide +kernel
theorem dX12_drop_10 : decode cX12_drop 10 = .ok (.aload_n 0, 1) := by decide +kernel
theorem dX12_drop_11 : decode cX12_drop 11 = .ok (.iconst 0, 1) := by decide +kernel
theorem dX12_drop_12 : decode cX12_drop 12 = .ok (.putfield 189, 3) := by decide +kernel
theorem dX12_drop_15 : decode cX12_drop 15 = .ok (.iload_n 1, 1) := by decide +kernel
theorem dX12_drop_16 : decode cX12_drop 16 = .ok (.ireturn, 1) := by decide +kernel
theorem dX12_isMeant_0 : decode cX12_isMeant 0 = .ok (.iload_n 2, 1) := by decide +kernel
theorem dX12_isMeant_1 : decode cX12_isMeant 1 = .ok (.istore_n 3, 1) := by decide +kernel
theorem dX12_isMeant_2 : decode cX12_isMeant 2 = .ok (.iload_n 3, 1) := by decide +kernel
theorem dX12_isMeant_3 : decode cX12_isMeant 3 = .ok (.ifCond .le 44, 3) := by decide +kernel
theorem dX12_isMeant_6 : decode cX12_isMeant 6 = .ok (.aload_n 0, 1) := by decide +kernel
theorem dX12_isMeant_7 : decode cX12_isMeant 7 = .ok (.aload_n 0, 1) := by decide +kernel
theorem dX12_isMeant_8 : decode cX12_isMeant 8 = .ok (.getfield 118, 3) := by decide +kernel
theorem dX12_isMeant_11 : decode cX12_isMeant 11 = .ok (.aload_n 0, 1) := by decide +kernel
theorem dX12_isMeant_12 : decode cX12_isMeant 12 = .ok (.getfield 112, 3) := by decide +kernel
theorem dX12_isMeant_15 : decode cX12_isMeant 15 = .ok (.iload_n 3, 1) := by decide +kernel
theorem dX12_isMeant_16 : decode cX12_isMeant 16 = .ok (.iaload, 1) := by decide +kernel
theorem dX12_isMeant_17 : decode cX12_isMeant 17 = .ok (.iaload, 1) := by decide +kernel
theorem dX12_isMeant_18 : decode cX12_isMeant 18 = .ok (.invokevirtual 214, 3) := by decide +kernel
theorem dX12_isMeant_21 : decode cX12_isMeant 21 = .ok (.aload_n 0, 1) := by decide +kernel
theorem dX12_isMeant_22 : decode cX12_isMeant 22 = .ok (.iload_n 1, 1) := by decide +kernel
theorem dX12_isMeant_23 : decode cX12_isMeant 23 = .ok (.invokevirtual 160, 3) := by decide +kernel
theorem dX12_isMeant_26 : decode cX12_isMeant 26 = .ok (.aload_n 0, 1) := by decide +kernel
theorem dX12_isMeant_27 : decode cX12_isMeant 27 = .ok (.getfield 115, 3) := by decide +kernel
theorem dX12_isMeant_30 : decode cX12_isMeant 30 = .ok (.iload_n 3, 1) := by decide +kernel
theorem dX12_isMeant_31 : decode cX12_isMeant 31 = .ok (.iaload, 1) := by decide +kernel
theorem dX12_isMeant_32 : decode cX12_isMeant 32 = .ok (.if_icmp .eq 5, 3) := by decide +kernel
theorem dX12_isMeant_35 : decode cX12_isMeant 35 = .ok (.iconst 0, 1) := by decide +kernel
theorem dX12_isMeant_36 : decode cX12_isMeant 36 = .ok (.ireturn, 1) := by decide +kernel
theorem dX12_isMeant_37 : decode cX12_isMeant 37 = .ok (.aload_n 0, 1) := by decide +kernel
theorem dX12_isMeant_38 : decode cX12_isMeant 38 = .ok (.getfield 112, 3) := by decide +kernel
theorem dX12_isMeant_41 : decode cX12_isMeant 41 = .ok (.iload_n 3, 1) := by decide +kernel
theorem dX12_isMeant_42 : decode cX12_isMeant 42 = .ok (.iaload, 1) := by decide +kernel
theorem dX12_isMeant_43 : decode cX12_isMeant 43 = .ok (.istore_n 3, 1) := by decide +kernel
theorem dX12_isMeant_44 : decode cX12_isMeant 44 = .ok (.goto (-42), 3) := by decide +kernel
theorem dX12_isMeant_47 : decode cX12_isMeant 47 = .ok (.iconst 1, 1) := by decide +kernel
theorem dX12_isMeant_48 : decode cX12_isMeant 48 = .ok (.ireturn, 1) := by decide +kernel
theorem dX12_isWhole_0 : decode cX12_isWhole 0 = .ok (.iconst 0, 1) := by decide +kernel
theorem dX12_isWhole_1 : decode cX12_isWhole 1 = .ok (.istore_n 2, 1) := by decide +kernel
theorem dX12_isWhole_2 : decode cX12_isWhole 2 = .ok (.iload_n 2, 1) := by decide +kernel
theorem dX12_isWhole_3 : decode cX12_isWhole 3 = .ok (.bipush 60, 2) := by decide +kernel
theorem dX12_isWhole_5 : decode cX12_isWhole 5 = .ok (.if_icmp .ge 16, 3) := by decide +kernel
theorem dX12_isWhole_8 : decode cX12_isWhole 8 = .ok (.aload_n 0, 1) := by decide +kernel
theorem dX12_isWhole_9 : decode cX12_isWhole 9 = .ok (.getfield 121, 3) := by decide +kernel
theorem dX12_isWhole_12 : decode cX12_isWhole 12 = .ok (.iload_n 2, 1) := by decide +kernel
theorem dX12_isWhole_13 : decode cX12_isWhole 13 = .ok (.iconst 0, 1) := by decide +kernel
theorem dX12_isWhole_14 : decode cX12_isWhole 14 = .ok (.iastore, 1) := by decide +kernel
theorem dX12_isWhole_15 : decode cX12_isWhole 15 = .ok (.iinc 2 1, 3) := by decide +kernel
theorem dX12_isWhole_18 : decode cX12_isWhole 18 = .ok (.goto (-16), 3) := by decide +kernel
theorem dX12_isWhole_21 : decode cX12_isWhole 21 = .ok (.iconst 0, 1) := by decide +kernel
theorem dX12_isWhole_22 : decode cX12_isWhole 22 = .ok (.istore_n 2, 1) := by decide +kernel
theorem dX12_isWhole_23 : decode cX12_isWhole 23 = .ok (.iload_n 2, 1) := by decide +kernel
theorem dX12_isWhole_24 : decode cX12_isWhole 24 = .ok (.aload_n 0, 1) := by decide +kernel
theorem dX12_isWhole_25 : decode cX12_isWhole 25 = .ok (.getfield 164, 3) := by decide +kernel
theorem dX12_isWhole_28 : decode cX12_isWhole 28 = .ok (.if_icmp .ge 52, 3) := by decide +kernel
theorem dX12_isWhole_31 : decode cX12_isWhole 31 = .ok (.aload_n 0, 1) := by decide +kernel
theorem dX12_isWhole_32 : decode cX12_isWhole 32 = .ok (.aload_n 0, 1) := by decide +kernel
theorem dX12_isWhole_33 : decode cX12_isWhole 33 = .ok (.getfield 42, 3) := by decide +kernel
theorem dX12_isWhole_36 : decode cX12_isWhole 36 = .ok (.iload_n 2, 1) := by decide +kernel
theorem dX12_isWhole_37 : decode cX12_isWhole 37 = .ok (.iaload, 1) := by decide +kernel
theorem dX12_isWhole_38 : decode cX12_isWhole 38 = .ok (.iload_n 1, 1) := by decide +kernel
theorem dX12_isWhole_39 : decode cX12_isWhole 39 = .ok (.invokevirtual 260, 3) := by decide +kernel
theorem dX12_isWhole_42 : decode cX12_isWhole 42 = .ok (.ifCond .ne 6, 3) := by decide +kernel
theorem dX12_isWhole_45 : decode cX12_isWhole 45 = .ok (.goto 29, 3) := by decide +kernel
theorem dX12_isWhole_48 : decode cX12_isWhole 48 = .ok (.aload_n 0, 1) := by decide +kernel
theorem dX12_isWhole_49 : decode cX12_isWhole 49 = .ok (.aload_n 0, 1) := by decide +kernel
theorem dX12_isWhole_50 : decode cX12_isWhole 50 = .ok (.getfield 118, 3) := by decide +kernel
theorem dX12_isWhole_53 : decode cX12_isWhole 53 = .ok (.iload_n 1, 1) := by decide +kernel
theorem dX12_isWhole_54 : decode cX12_isWhole 54 = .ok (.iaload, 1) := by decide +kernel
theorem dX12_isWhole_55 : decode cX12_isWhole 55 = .ok (.invokevirtual 214, 3) := by decide +kernel
theorem dX12_isWhole_58 : decode cX12_isWhole 58 = .ok (.aload_n 0, 1) := by decide +kernel
theorem dX12_isWhole_59 : decode cX12_isWhole 59 = .ok (.getfield 121, 3) := by decide +kernel
theorem dX12_isWhole_62 : decode cX12_isWhole 62 = .ok (.aload_n 0, 1) := by decide +kernel
theorem dX12_isWhole_63 : decode cX12_isWhole 63 = .ok (.aload_n 0, 1) := by decide +kernel
theorem dX12_isWhole_64 : decode cX12_isWhole 64 = .ok (.getfield 42, 3) := by decide +kernel
theorem dX12_isWhole_67 : decode cX12_isWhole 67 = .ok (.iload_n 2, 1) := by decide +kernel
theorem dX12_isWhole_68 : decode cX12_isWhole 68 = .ok (.iaload, 1) := by decide +kernel
theorem dX12_isWhole_69 : decode cX12_isWhole 69 = .ok (.invokevirtual 160, 3) := by decide +kernel
theorem dX12_isWhole_72 : decode cX12_isWhole 72 = .ok (.iconst 1, 1) := by decide +kernel
theorem dX12_isWhole_73 : decode cX12_isWhole 73 = .ok (.iastore, 1) := by decide +kernel
theorem dX12_isWhole_74 : decode cX12_isWhole 74 = .ok (.iinc 2 1, 3) := by decide +kernel
theorem dX12_isWhole_77 : decode cX12_isWhole 77 = .ok (.goto (-54), 3) := by decide +kernel
theorem dX12_isWhole_80 : decode cX12_isWhole 80 = .ok (.aload_n 0, 1) := by decide +kernel
theorem dX12_isWhole_81 : decode cX12_isWhole 81 = .ok (.getfield 121, 3) := by decide +kernel
theorem dX12_isWhole_84 : decode cX12_isWhole 84 = .ok (.bipush 10, 2) := by decide +kernel
theorem dX12_isWhole_86 : decode cX12_isWhole 86 = .ok (.aload_n 0, 1) := by decide +kernel
theorem dX12_isWhole_87 : decode cX12_isWhole 87 = .ok (.getfield 7, 3) := by decide +kernel
theorem dX12_isWhole_90 : decode cX12_isWhole 90 = .ok (.imul, 1) := by decide +kernel
theorem dX12_isWhole_91 : decode cX12_isWhole 91 = .ok (.iconst 0, 1) := by decide +kernel
theorem dX12_isWhole_92 : decode cX12_isWhole 92 = .ok (.iastore, 1) := by decide +kernel
theorem dX12_isWhole_93 : decode cX12_isWhole 93 = .ok (.iconst 0, 1) := by decide +kernel
theorem dX12_isWhole_94 : decode cX12_isWhole 94 = .ok (.istore_n 2, 1) := by decide +kernel
theorem dX12_isWhole_95 : decode cX12_isWhole 95 = .ok (.iload_n 2, 1) := by decide +kernel
theorem dX12_isWhole_96 : decode cX12_isWhole 96 = .ok (.bipush 60, 2) := by decide +kernel
theorem dX12_isWhole_98 : decode cX12_isWhole 98 = .ok (.if_icmp .ge 71, 3) := by decide +kernel
theorem dX12_isWhole_101 : decode cX12_isWhole 101 = .ok (.iconst 0, 1) := by decide +kernel
theorem dX12_isWhole_102 : decode cX12_isWhole 102 = .ok (.istore_n 3, 1) := by decide +kernel
theorem dX12_isWhole_103 : decode cX12_isWhole 103 = .ok (.iconst 1, 1) := by decide +kernel
theorem dX12_isWhole_104 : decode cX12_isWhole 104 = .ok (.istore 4, 2) := by decide +kernel
theorem dX12_isWhole_106 : decode cX12_isWhole 106 = .ok (.iload 4, 2) := by decide +kernel
theorem dX12_isWhole_108 : decode cX12_isWhole 108 = .ok (.aload_n 0, 1) := by decide +kernel
theorem dX12_isWhole_109 : decode cX12_isWhole 109 = .ok (.getfield 189, 3) := by decide +kernel
theorem dX12_isWhole_112 : decode cX12_isWhole 112 = .ok (.if_icmp .ge 39, 3) := by decide +kernel
theorem dX12_isWhole_115 : decode cX12_isWhole 115 = .ok (.iload_n 3, 1) := by decide +kernel
theorem dX12_isWhole_116 : decode cX12_isWhole 116 = .ok (.aload_n 0, 1) := by decide +kernel
theorem dX12_isWhole_117 : decode cX12_isWhole 117 = .ok (.getfield 112, 3) := by decide +kernel
theorem dX12_isWhole_120 : decode cX12_isWhole 120 = .ok (.iload 4, 2) := by decide +kernel
theorem dX12_isWhole_122 : decode cX12_isWhole 122 = .ok (.iaload, 1) := by decide +kernel
theorem dX12_isWhole_123 : decode cX12_isWhole 123 = .ok (.iload_n 1, 1) := by decide +kernel
theorem dX12_isWhole_124 : decode cX12_isWhole 124 = .ok (.if_icmp .ne 18, 3) := by decide +kernel
theorem dX12_isWhole_127 : decode cX12_isWhole 127 = .ok (.aload_n 0, 1) := by decide +kernel
theorem dX12_isWhole_128 : decode cX12_isWhole 128 = .ok (.getfield 115, 3) := by decide +kernel
theorem dX12_isWhole_131 : decode cX12_isWhole 131 = .ok (.iload 4, 2) := by decide +kernel
theorem dX12_isWhole_133 : decode cX12_isWhole 133 = .ok (.iaload, 1) := by decide +kernel
theorem dX12_isWhole_134 : decode cX12_isWhole 134 = .ok (.iload_n 2, 1) := by decide +kernel
theorem dX12_isWhole_135 : decode cX12_isWhole 135 = .ok (.if_icmp .ne 7, 3) := by decide +kernel
theorem dX12_isWhole_138 : decode cX12_isWhole 138 = .ok (.iconst 1, 1) := by decide +kernel
theorem dX12_isWhole_139 : decode cX12_isWhole 139 = .ok (.goto 4, 3) := by decide +kernel
theorem dX12_isWhole_142 : decode cX12_isWhole 142 = .ok (.iconst 0, 1) := by decide +kernel
theorem dX12_isWhole_143 : decode cX12_isWhole 143 = .ok (.iadd, 1) := by decide +kernel
theorem dX12_isWhole_144 : decode cX12_isWhole 144 = .ok (.istore_n 3, 1) := by decide +kernel
theorem dX12_isWhole_145 : decode cX12_isWhole 145 = .ok (.iinc 4 1, 3) := by decide +kernel
theorem dX12_isWhole_148 : decode cX12_isWhole 148 = .ok (.goto (-42), 3) := by decide +kernel
theorem dX12_isWhole_151 : decode cX12_isWhole 151 = .ok (.iload_n 3, 1) := by decide +kernel
theorem dX12_isWhole_152 : decode cX12_isWhole 152 = .ok (.aload_n 0, 1) := by decide +kernel
theorem dX12_isWhole_153 : decode cX12_isWhole 153 = .ok (.getfield 121, 3) := by decide +kernel
theorem dX12_isWhole_156 : decode cX12_isWhole 156 = .ok (.iload_n 2, 1) := by decide +kernel
theorem dX12_isWhole_157 : decode cX12_isWhole 157 = .ok (.iaload, 1) := by decide +kernel
theorem dX12_isWhole_158 : decode cX12_isWhole 158 = .ok (.if_icmp .eq 5, 3) := by decide +kernel
theorem dX12_isWhole_161 : decode cX12_isWhole 161 = .ok (.iconst 0, 1) := by decide +kernel
theorem dX12_isWhole_162 : decode cX12_isWhole 162 = .ok (.ireturn, 1) := by decide +kernel
theorem dX12_isWhole_163 : decode cX12_isWhole 163 = .ok (.iinc 2 1, 3) := by decide +kernel
theorem dX12_isWhole_166 : decode cX12_isWhole 166 = .ok (.goto (-71), 3) := by decide +kernel
theorem dX12_isWhole_169 : decode cX12_isWhole 169 = .ok (.iconst 1, 1) := by decide +kernel
theorem dX12_isWhole_170 : decode cX12_isWhole 170 = .ok (.ireturn, 1) := by decide +kernel
theorem dX12_judged_0 : decode cX12_judged 0 = .ok (.aload_n 0, 1) := by decide +kernel
theorem dX12_judged_1 : decode cX12_judged 1 = .ok (.invokevirtual 208, 3) := by decide +kernel
theorem dX12_judged_4 : decode cX12_judged 4 = .ok (.aload_n 0, 1) := by decide +kernel
theorem dX12_judged_5 : decode cX12_judged 5 = .ok (.getfield 189, 3) := by decide +kernel
theorem dX12_judged_8 : decode cX12_judged 8 = .ok (.ifCond .eq 10, 3) := by decide +kernel
theorem dX12_judged_11 : decode cX12_judged 11 = .ok (.aload_n 0, 1) := by decide +kernel
theorem dX12_judged_12 : decode cX12_judged 12 = .ok (.getfield 164, 3) := by decide +kernel
theorem dX12_judged_15 : decode cX12_judged 15 = .ok (.ifCond .ne 5, 3) := by decide +kernel
theorem dX12_judged_18 : decode cX12_judged 18 = .ok (.iconst (-1), 1) := by decide +kernel
theorem dX12_judged_19 : decode cX12_judged 19 = .ok (.ireturn, 1) := by decide +kernel
theorem dX12_judged_20 : decode cX12_judged 20 = .ok (.aload_n 0, 1) := by decide +kernel
theorem dX12_judged_21 : decode cX12_judged 21 = .ok (.getfield 180, 3) := by decide +kernel
theorem dX12_judged_24 : decode cX12_judged 24 = .ok (.ifCond .eq 6, 3) := by decide +kernel
theorem dX12_judged_27 : decode cX12_judged 27 = .ok (.bipush (-6), 2) := by decide +kernel
theorem dX12_judged_29 : decode cX12_judged 29 = .ok (.ireturn, 1) := by decide +kernel
theorem dX12_judged_30 : decode cX12_judged 30 = .ok (.iconst 0, 1) := by decide +kernel
theorem dX12_judged_31 : decode cX12_judged 31 = .ok (.istore_n 1, 1) := by decide +kernel
theorem dX12_judged_32 : decode cX12_judged 32 = .ok (.iload_n 1, 1) := by decide +kernel
theorem dX12_judged_33 : decode cX12_judged 33 = .ok (.aload_n 0, 1) := by decide +kernel
theorem dX12_judged_34 : decode cX12_judged 34 = .ok (.getfield 189, 3) := by decide +kernel
theorem dX12_judged_37 : decode cX12_judged 37 = .ok (.if_icmp .ge 22, 3) := by decide +kernel
theorem dX12_judged_40 : decode cX12_judged 40 = .ok (.aload_n 0, 1) := by decide +kernel
theorem dX12_judged_41 : decode cX12_judged 41 = .ok (.iload_n 1, 1) := by decide +kernel
theorem dX12_judged_42 : decode cX12_judged 42 = .ok (.invokevirtual 263, 3) := by decide +kernel
theorem dX12_judged_45 : decode cX12_judged 45 = .ok (.ifCond .ne 8, 3) := by decide +kernel
theorem dX12_judged_48 : decode cX12_judged 48 = .ok (.bipush (-20), 2) := by decide +kernel
theorem dX12_judged_50 : decode cX12_judged 50 = .ok (.iload_n 1, 1) := by decide +kernel
theorem dX12_judged_51 : decode cX12_judged 51 = .ok (.isub, 1) := by decide +kernel
theorem dX12_judged_52 : decode cX12_judged 52 = .ok (.ireturn, 1) := by decide +kernel
theorem dX12_judged_53 : decode cX12_judged 53 = .ok (.iinc 1 1, 3) := by decide +kernel
theorem dX12_judged_56 : decode cX12_judged 56 = .ok (.goto (-24), 3) := by decide +kernel
theorem dX12_judged_59 : decode cX12_judged 59 = .ok (.iconst 0, 1) := by decide +kernel
theorem dX12_judged_60 : decode cX12_judged 60 = .ok (.istore_n 1, 1) := by decide +kernel
theorem dX12_judged_61 : decode cX12_judged 61 = .ok (.iconst 0, 1) := by decide +kernel
theorem dX12_judged_62 : decode cX12_judged 62 = .ok (.istore_n 2, 1) := by decide +kernel
theorem dX12_judged_63 : decode cX12_judged 63 = .ok (.iload_n 2, 1) := by decide +kernel
theorem dX12_judged_64 : decode cX12_judged 64 = .ok (.aload_n 0, 1) := by decide +kernel
theorem dX12_judged_65 : decode cX12_judged 65 = .ok (.getfield 189, 3) := by decide +kernel
theorem dX12_judged_68 : decode cX12_judged 68 = .ok (.if_icmp .ge 45, 3) := by decide +kernel
theorem dX12_judged_71 : decode cX12_judged 71 = .ok (.iconst 1, 1) := by decide +kernel
theorem dX12_judged_72 : decode cX12_judged 72 = .ok (.istore_n 3, 1) := by decide +kernel
theorem dX12_judged_73 : decode cX12_judged 73 = .ok (.iload_n 2, 1) := by decide +kernel
theorem dX12_judged_74 : decode cX12_judged 74 = .ok (.istore 4, 2) := by decide +kernel
theorem dX12_judged_76 : decode cX12_judged 76 = .ok (.iload 4, 2) := by decide +kernel
theorem dX12_judged_78 : decode cX12_judged 78 = .ok (.ifCond .le 18, 3) := by decide +kernel
theorem dX12_judged_81 : decode cX12_judged 81 = .ok (.iinc 3 1, 3) := by decide +kernel
theorem dX12_judged_84 : decode cX12_judged 84 = .ok (.aload_n 0, 1) := by decide +kernel
theorem dX12_judged_85 : decode cX12_judged 85 = .ok (.getfield 112, 3) := by decide +kernel
theorem dX12_judged_88 : decode cX12_judged 88 = .ok (.iload 4, 2) := by decide +kernel
theorem dX12_judged_90 : decode cX12_judged 90 = .ok (.iaload, 1) := by decide +kernel
theorem dX12_judged_91 : decode cX12_judged 91 = .ok (.istore 4, 2) := by decide +kernel
theorem dX12_judged_93 : decode cX12_judged 93 = .ok (.goto (-17), 3) := by decide +kernel
theorem dX12_judged_96 : decode cX12_judged 96 = .ok (.iload_n 3, 1) := by decide +kernel
theorem dX12_judged_97 : decode cX12_judged 97 = .ok (.iload_n 1, 1) := by decide +kernel
theorem dX12_judged_98 : decode cX12_judged 98 = .ok (.if_icmp .le 7, 3) := by decide +kernel
theorem dX12_judged_101 : decode cX12_judged 101 = .ok (.iload_n 3, 1) := by decide +kernel
theorem dX12_judged_102 : decode cX12_judged 102 = .ok (.goto 4, 3) := by decide +kernel
theorem dX12_judged_105 : decode cX12_judged 105 = .ok (.iload_n 1, 1) := by decide +kernel
theorem dX12_judged_106 : decode cX12_judged 106 = .ok (.istore_n 1, 1) := by decide +kernel
theorem dX12_judged_107 : decode cX12_judged 107 = .ok (.iinc 2 1, 3) := by decide +kernel
theorem dX12_judged_110 : decode cX12_judged 110 = .ok (.goto (-47), 3) := by decide +kernel
theorem dX12_judged_113 : decode cX12_judged 113 = .ok (.iload_n 1, 1) := by decide +kernel
theorem dX12_judged_114 : decode cX12_judged 114 = .ok (.ireturn, 1) := by decide +kernel
theorem dX12_judge_0 : decode cX12_judge 0 = .ok (.aload_n 0, 1) := by decide +kernel
theorem dX12_judge_1 : decode cX12_judge 1 = .ok (.iconst 0, 1) := by decide +kernel
theorem dX12_judge_2 : decode cX12_judge 2 = .ok (.putfield 139, 3) := by decide +kernel
theorem dX12_judge_5 : decode cX12_judge 5 = .ok (.aload_n 0, 1) := by decide +kernel
theorem dX12_judge_6 : decode cX12_judge 6 = .ok (.invokevirtual 266, 3) := by decide +kernel
theorem dX12_judge_9 : decode cX12_judge 9 = .ok (.ireturn, 1) := by decide +kernel
theorem dX12_total_0 : decode cX12_total 0 = .ok (.aload_n 0, 1) := by decide +kernel
theorem dX12_total_1 : decode cX12_total 1 = .ok (.iconst 0, 1) := by decide +kernel
theorem dX12_total_2 : decode cX12_total 2 = .ok (.putfield 139, 3) := by decide +kernel
theorem dX12_total_5 : decode cX12_total 5 = .ok (.aload_n 0, 1) := by decide +kernel
theorem dX12_total_6 : decode cX12_total 6 = .ok (.invokevirtual 266, 3) := by decide +kernel
theorem dX12_total_9 : decode cX12_total 9 = .ok (.ifCond .gt 5, 3) := by decide +kernel
theorem dX12_total_12 : decode cX12_total 12 = .ok (.iconst (-1), 1) := by decide +kernel
theorem dX12_total_13 : decode cX12_total 13 = .ok (.ireturn, 1) := by decide +kernel
theorem dX12_total_14 : decode cX12_total 14 = .ok (.iconst 0, 1) := by decide +kernel
theorem dX12_total_15 : decode cX12_total 15 = .ok (.istore_n 1, 1) := by decide +kernel
theorem dX12_total_16 : decode cX12_total 16 = .ok (.iconst 0, 1) := by decide +kernel
theorem dX12_total_17 : decode cX12_total 17 = .ok (.istore_n 2, 1) := by decide +kernel
theorem dX12_total_18 : decode cX12_total 18 = .ok (.iload_n 2, 1) := by decide +kernel
theorem dX12_total_19 : decode cX12_total 19 = .ok (.aload_n 0, 1) := by decide +kernel
theorem dX12_total_20 : decode cX12_total 20 = .ok (.getfield 164, 3) := by decide +kernel
theorem dX12_total_23 : decode cX12_total 23 = .ok (.if_icmp .ge 108, 3) := by decide +kernel
theorem dX12_total_26 : decode cX12_total 26 = .ok (.iconst 0, 1) := by decide +kernel
theorem dX12_total_27 : decode cX12_total 27 = .ok (.istore_n 3, 1) := by decide +kernel
theorem dX12_total_28 : decode cX12_total 28 = .ok (.iinc 1 1, 3) := by decide +kernel
theorem dX12_total_31 : decode cX12_total 31 = .ok (.aload_n 0, 1) := by decide +kernel
theorem dX12_total_32 : decode cX12_total 32 = .ok (.getfield 118, 3) := by decide +kernel
theorem dX12_total_35 : decode cX12_total 35 = .ok (.iload_n 3, 1) := by decide +kernel
theorem dX12_total_36 : decode cX12_total 36 = .ok (.iaload, 1) := by decide +kernel
theorem dX12_total_37 : decode cX12_total 37 = .ok (.aload_n 0, 1) := by decide +kernel
theorem dX12_total_38 : decode cX12_total 38 = .ok (.getfield 42, 3) := by decide +kernel
theorem dX12_total_41 : decode cX12_total 41 = .ok (.iload_n 2, 1) := by decide +kernel
theorem dX12_total_42 : decode cX12_total 42 = .ok (.iaload, 1) := by decide +kernel
theorem dX12_total_43 : decode cX12_total 43 = .ok (.if_icmp .eq 82, 3) := by decide +kernel
theorem dX12_total_46 : decode cX12_total 46 = .ok (.aload_n 0, 1) := by decide +kernel
theorem dX12_total_47 : decode cX12_total 47 = .ok (.aload_n 0, 1) := by decide +kernel
theorem dX12_total_48 : decode cX12_total 48 = .ok (.getfield 118, 3) := by decide +kernel
theorem dX12_total_51 : decode cX12_total 51 = .ok (.iload_n 3, 1) := by decide +kernel
theorem dX12_total_52 : decode cX12_total 52 = .ok (.iaload, 1) := by decide +kernel
theorem dX12_total_53 : decode cX12_total 53 = .ok (.invokevirtual 214, 3) := by decide +kernel
theorem dX12_total_56 : decode cX12_total 56 = .ok (.aload_n 0, 1) := by decide +kernel
theorem dX12_total_57 : decode cX12_total 57 = .ok (.aload_n 0, 1) := by decide +kernel
theorem dX12_total_58 : decode cX12_total 58 = .ok (.getfield 42, 3) := by decide +kernel
theorem dX12_total_61 : decode cX12_total 61 = .ok (.iload_n 2, 1) := by decide +kernel
theorem dX12_total_62 : decode cX12_total 62 = .ok (.iaload, 1) := by decide +kernel
theorem dX12_total_63 : decode cX12_total 63 = .ok (.invokevirtual 160, 3) := by decide +kernel
theorem dX12_total_66 : decode cX12_total 66 = .ok (.istore 4, 2) := by decide +kernel
theorem dX12_total_68 : decode cX12_total 68 = .ok (.iconst (-1), 1) := by decide +kernel
theorem dX12_total_69 : decode cX12_total 69 = .ok (.istore 5, 2) := by decide +kernel
theorem dX12_total_71 : decode cX12_total 71 = .ok (.iconst 1, 1) := by decide +kernel
theorem dX12_total_72 : decode cX12_total 72 = .ok (.istore 6, 2) := by decide +kernel
theorem dX12_total_74 : decode cX12_total 74 = .ok (.iload 6, 2) := by decide +kernel
theorem dX12_total_76 : decode cX12_total 76 = .ok (.aload_n 0, 1) := by decide +kernel
theorem dX12_total_77 : decode cX12_total 77 = .ok (.getfield 189, 3) := by decide +kernel
theorem dX12_total_80 : decode cX12_total 80 = .ok (.if_icmp .ge 36, 3) := by decide +kernel
theorem dX12_total_83 : decode cX12_total 83 = .ok (.aload_n 0, 1) := by decide +kernel
theorem dX12_total_84 : decode cX12_total 84 = .ok (.getfield 112, 3) := by decide +kernel
theorem dX12_total_87 : decode cX12_total 87 = .ok (.iload 6, 2) := by decide +kernel
theorem dX12_total_89 : decode cX12_total 89 = .ok (.iaload, 1) := by decide +kernel
theorem dX12_total_90 : decode cX12_total 90 = .ok (.iload_n 3, 1) := by decide +kernel
theorem dX12_total_91 : decode cX12_total 91 = .ok (.if_icmp .ne 19, 3) := by decide +kernel
theorem dX12_total_94 : decode cX12_total 94 = .ok (.aload_n 0, 1) := by decide +kernel
theorem dX12_total_95 : decode cX12_total 95 = .ok (.getfield 115, 3) := by decide +kernel
theorem dX12_total_98 : decode cX12_total 98 = .ok (.iload 6, 2) := by decide +kernel
theorem dX12_total_100 : decode cX12_total 100 = .ok (.iaload, 1) := by decide +kernel
theorem dX12_total_101 : decode cX12_total 101 = .ok (.iload 4, 2) := by decide +kernel
theorem dX12_total_103 : decode cX12_total 103 = .ok (.if_icmp .ne 7, 3) := by decide +kernel
theorem dX12_total_106 : decode cX12_total 106 = .ok (.iload 6, 2) := by decide +kernel
theorem dX12_total_108 : decode cX12_total 108 = .ok (.istore 5, 2) := by decide +kernel
theorem dX12_total_110 : decode cX12_total 110 = .ok (.iinc 6 1, 3) := by decide +kernel
theorem dX12_total_113 : decode cX12_total 113 = .ok (.goto (-39), 3) := by decide +kernel
theorem dX12_total_116 : decode cX12_total 116 = .ok (.iload 5, 2) := by decide +kernel
theorem dX12_total_118 : decode cX12_total 118 = .ok (.istore_n 3, 1) := by decide +kernel
theorem dX12_total_119 : decode cX12_total 119 = .ok (.iinc 1 1, 3) := by decide +kernel
theorem dX12_total_122 : decode cX12_total 122 = .ok (.goto (-91), 3) := by decide +kernel
theorem dX12_total_125 : decode cX12_total 125 = .ok (.iinc 2 1, 3) := by decide +kernel
theorem dX12_total_128 : decode cX12_total 128 = .ok (.goto (-110), 3) := by decide +kernel
theorem dX12_total_131 : decode cX12_total 131 = .ok (.iload_n 1, 1) := by decide +kernel
theorem dX12_total_132 : decode cX12_total 132 = .ok (.ireturn, 1) := by decide +kernel
theorem dX12_isShelf_0 : decode cX12_isShelf 0 = .ok (.iload_n 0, 1) := by decide +kernel
theorem dX12_isShelf_1 : decode cX12_isShelf 1 = .ok (.iconst 0, 1) := by decide +kernel
theorem dX12_isShelf_2 : decode cX12_isShelf 2 = .ok (.iconst 5, 1) := by decide +kernel
theorem dX12_isShelf_3 : decode cX12_isShelf 3 = .ok (.invokestatic 142, 3) := by decide +kernel
theorem dX12_isShelf_6 : decode cX12_isShelf 6 = .ok (.ireturn, 1) := by decide +kernel
theorem dX12_narrow_0 : decode cX12_narrow 0 = .ok (.iload_n 0, 1) := by decide +kernel
theorem dX12_narrow_1 : decode cX12_narrow 1 = .ok (.iconst 1, 1) := by decide +kernel
theorem dX12_narrow_2 : decode cX12_narrow 2 = .ok (.if_icmp .ne 8, 3) := by decide +kernel
theorem dX12_narrow_5 : decode cX12_narrow 5 = .ok (.iload_n 1, 1) := by decide +kernel
theorem dX12_narrow_6 : decode cX12_narrow 6 = .ok (.i2b, 1) := by decide +kernel
theorem dX12_narrow_7 : decode cX12_narrow 7 = .ok (.goto 18, 3) := by decide +kernel
theorem dX12_narrow_10 : decode cX12_narrow 10 = .ok (.iload_n 0, 1) := by decide +kernel
theorem dX12_narrow_11 : decode cX12_narrow 11 = .ok (.iconst 2, 1) := by decide +kernel
theorem dX12_narrow_12 : decode cX12_narrow 12 = .ok (.if_icmp .ne 11, 3) := by decide +kernel
theorem dX12_narrow_15 : decode cX12_narrow 15 = .ok (.iload_n 1, 1) := by decide +kernel
theorem dX12_narrow_16 : decode cX12_narrow 16 = .ok (.ldc_w 269, 3) := by decide +kernel
theorem dX12_narrow_19 : decode cX12_narrow 19 = .ok (.iand, 1) := by decide +kernel
theorem dX12_narrow_20 : decode cX12_narrow 20 = .ok (.goto 5, 3) := by decide +kernel
theorem dX12_narrow_23 : decode cX12_narrow 23 = .ok (.iload_n 1, 1) := by decide +kernel
theorem dX12_narrow_24 : decode cX12_narrow 24 = .ok (.i2s, 1) := by decide +kernel
theorem dX12_narrow_25 : decode cX12_narrow 25 = .ok (.ireturn, 1) := by decide +kernel
theorem dX12_rack_0 : decode cX12_rack 0 = .ok (.aload_n 0, 1) := by decide +kernel
theorem dX12_rack_1 : decode cX12_rack 1 = .ok (.iconst 0, 1) := by decide +kernel
theorem dX12_rack_2 : decode cX12_rack 2 = .ok (.putfield 139, 3) := by decide +kernel
theorem dX12_rack_5 : decode cX12_rack 5 = .ok (.iload_n 1, 1) := by decide +kernel
theorem dX12_rack_6 : decode cX12_rack 6 = .ok (.invokestatic 270, 3) := by decide +kernel
theorem dX12_rack_9 : decode cX12_rack 9 = .ok (.ifCond .eq 18, 3) := by decide +kernel
theorem dX12_rack_12 : decode cX12_rack 12 = .ok (.iload_n 2, 1) := by decide +kernel
theorem dX12_rack_13 : decode cX12_rack 13 = .ok (.iconst 1, 1) := by decide +kernel
theorem dX12_rack_14 : decode cX12_rack 14 = .ok (.iconst 3, 1) := by decide +kernel
theorem dX12_rack_15 : decode cX12_rack 15 = .ok (.invokestatic 142, 3) := by decide +kernel
theorem dX12_rack_18 : decode cX12_rack 18 = .ok (.ifCond .eq 9, 3) := by decide +kernel
theorem dX12_rack_21 : decode cX12_rack 21 = .ok (.iload_n 3, 1) := by decide +kernel
theorem dX12_rack_22 : decode cX12_rack 22 = .ok (.bipush 60, 2) := by decide +kernel
theorem dX12_rack_24 : decode cX12_rack 24 = .ok (.if_icmp .le 5, 3) := by decide +kernel
theorem dX12_rack_27 : decode cX12_rack 27 = .ok (.iconst (-1), 1) := by decide +kernel
theorem dX12_rack_28 : decode cX12_rack 28 = .ok (.ireturn, 1) := by decide +kernel
theorem dX12_rack_29 : decode cX12_rack 29 = .ok (.iload_n 3, 1) := by decide +kernel
theorem dX12_rack_30 : decode cX12_rack 30 = .ok (.ifCond .ge 10, 3) := by decide +kernel
theorem dX12_rack_33 : decode cX12_rack 33 = .ok (.aload_n 0, 1) := by decide +kernel
theorem dX12_rack_34 : decode cX12_rack 34 = .ok (.bipush (-14), 2) := by decide +kernel
theorem dX12_rack_36 : decode cX12_rack 36 = .ok (.invokevirtual 202, 3) := by decide +kernel
theorem dX12_rack_39 : decode cX12_rack 39 = .ok (.ireturn, 1) := by decide +kernel
theorem dX12_rack_40 : decode cX12_rack 40 = .ok (.aload_n 0, 1) := by decide +kernel
theorem dX12_rack_41 : decode cX12_rack 41 = .ok (.getfield 124, 3) := by decide +kernel
theorem dX12_rack_44 : decode cX12_rack 44 = .ok (.iload_n 1, 1) := by decide +kernel
theorem dX12_rack_45 : decode cX12_rack 45 = .ok (.iload_n 2, 1) := by decide +kernel
theorem dX12_rack_46 : decode cX12_rack 46 = .ok (.iastore, 1) := by decide +kernel
theorem dX12_rack_47 : decode cX12_rack 47 = .ok (.aload_n 0, 1) := by decide +kernel
theorem dX12_rack_48 : decode cX12_rack 48 = .ok (.getfield 127, 3) := by decide +kernel
theorem dX12_rack_51 : decode cX12_rack 51 = .ok (.iload_n 1, 1) := by decide +kernel
theorem dX12_rack_52 : decode cX12_rack 52 = .ok (.iload_n 3, 1) := by decide +kernel
theorem dX12_rack_53 : decode cX12_rack 53 = .ok (.iastore, 1) := by decide +kernel
theorem dX12_rack_54 : decode cX12_rack 54 = .ok (.iconst 0, 1) := by decide +kernel
theorem dX12_rack_55 : decode cX12_rack 55 = .ok (.istore 4, 2) := by decide +kernel
theorem dX12_rack_57 : decode cX12_rack 57 = .ok (.iload 4, 2) := by decide +kernel
theorem dX12_rack_59 : decode cX12_rack 59 = .ok (.bipush 60, 2) := by decide +kernel
theorem dX12_rack_61 : decode cX12_rack 61 = .ok (.if_icmp .ge 22, 3) := by decide +kernel
theorem dX12_rack_64 : decode cX12_rack 64 = .ok (.aload_n 0, 1) := by decide +kernel
theorem dX12_rack_65 : decode cX12_rack 65 = .ok (.getfield 130, 3) := by decide +kernel
theorem dX12_rack_68 : decode cX12_rack 68 = .ok (.bipush 60, 2) := by decide +kernel
theorem dX12_rack_70 : decode cX12_rack 70 = .ok (.iload_n 1, 1) := by decide +kernel
theorem dX12_rack_71 : decode cX12_rack 71 = .ok (.imul, 1) := by decide +kernel
theorem dX12_rack_72 : decode cX12_rack 72 = .ok (.iload 4, 2) := by decide +kernel
theorem dX12_rack_74 : decode cX12_rack 74 = .ok (.iadd, 1) := by decide +kernel
theorem dX12_rack_75 : decode cX12_rack 75 = .ok (.iconst 0, 1) := by decide +kernel
theorem dX12_rack_76 : decode cX12_rack 76 = .ok (.iastore, 1) := by decide +kernel
theorem dX12_rack_77 : decode cX12_rack 77 = .ok (.iinc 4 1, 3) := by decide +kernel
theorem dX12_rack_80 : decode cX12_rack 80 = .ok (.goto (-23), 3) := by decide +kernel
theorem dX12_rack_83 : decode cX12_rack 83 = .ok (.iload_n 3, 1) := by decide +kernel
theorem dX12_rack_84 : decode cX12_rack 84 = .ok (.ireturn, 1) := by decide +kernel
theorem dX12_keep_0 : decode cX12_keep 0 = .ok (.aload_n 0, 1) := by decide +kernel
theorem dX12_keep_1 : decode cX12_keep 1 = .ok (.iconst 0, 1) := by decide +kernel
theorem dX12_keep_2 : decode cX12_keep 2 = .ok (.putfield 139, 3) := by decide +kernel
theorem dX12_keep_5 : decode cX12_keep 5 = .ok (.iload_n 1, 1) := by decide +kernel
theorem dX12_keep_6 : decode cX12_keep 6 = .ok (.invokestatic 270, 3) := by decide +kernel
theorem dX12_keep_9 : decode cX12_keep 9 = .ok (.ifCond .ne 5, 3) := by decide +kernel
theorem dX12_keep_12 : decode cX12_keep 12 = .ok (.iconst (-1), 1) := by decide +kernel
theorem dX12_keep_13 : decode cX12_keep 13 = .ok (.ireturn, 1) := by decide +kernel
theorem dX12_keep_14 : decode cX12_keep 14 = .ok (.aload_n 0, 1) := by decide +kernel
theorem dX12_keep_15 : decode cX12_keep 15 = .ok (.getfield 124, 3) := by decide +kernel
theorem dX12_keep_18 : decode cX12_keep 18 = .ok (.iload_n 1, 1) := by decide +kernel
theorem dX12_keep_19 : decode cX12_keep 19 = .ok (.iconst 4, 1) := by decide +kernel
theorem dX12_keep_20 : decode cX12_keep 20 = .ok (.iastore, 1) := by decide +kernel
theorem dX12_keep_21 : decode cX12_keep 21 = .ok (.aload_n 0, 1) := by decide +kernel
theorem dX12_keep_22 : decode cX12_keep 22 = .ok (.getfield 127, 3) := by decide +kernel
theorem dX12_keep_25 : decode cX12_keep 25 = .ok (.iload_n 1, 1) := by decide +kernel
theorem dX12_keep_26 : decode cX12_keep 26 = .ok (.aload_n 0, 1) := by decide +kernel
theorem dX12_keep_27 : decode cX12_keep 27 = .ok (.getfield 7, 3) := by decide +kernel
theorem dX12_keep_30 : decode cX12_keep 30 = .ok (.iastore, 1) := by decide +kernel
theorem dX12_keep_31 : decode cX12_keep 31 = .ok (.aload_n 0, 1) := by decide +kernel
theorem dX12_keep_32 : decode cX12_keep 32 = .ok (.getfield 133, 3) := by decide +kernel
theorem dX12_keep_35 : decode cX12_keep 35 = .ok (.iload_n 1, 1) := by decide +kernel
theorem dX12_keep_36 : decode cX12_keep 36 = .ok (.aload_n 0, 1) := by decide +kernel
theorem dX12_keep_37 : decode cX12_keep 37 = .ok (.invokevirtual 205, 3) := by decide +kernel
theorem dX12_keep_40 : decode cX12_keep 40 = .ok (.iastore, 1) := by decide +kernel
theorem dX12_keep_41 : decode cX12_keep 41 = .ok (.iconst 0, 1) := by decide +kernel
theorem dX12_keep_42 : decode cX12_keep 42 = .ok (.istore_n 2, 1) := by decide +kernel
theorem dX12_keep_43 : decode cX12_keep 43 = .ok (.iload_n 2, 1) := by decide +kernel
theorem dX12_keep_44 : decode cX12_keep 44 = .ok (.aload_n 0, 1) := by decide +kernel
theorem dX12_keep_45 : decode cX12_keep 45 = .ok (.getfield 7, 3) := by decide +kernel
theorem dX12_keep_48 : decode cX12_keep 48 = .ok (.if_icmp .ge 26, 3) := by decide +kernel
theorem dX12_keep_51 : decode cX12_keep 51 = .ok (.aload_n 0, 1) := by decide +kernel
theorem dX12_keep_52 : decode cX12_keep 52 = .ok (.getfield 130, 3) := by decide +kernel
theorem dX12_keep_55 : decode cX12_keep 55 = .ok (.bipush 60, 2) := by decide +kernel
theorem dX12_keep_57 : decode cX12_keep 57 = .ok (.iload_n 1, 1) := by decide +kernel
theorem dX12_keep_58 : decode cX12_keep 58 = .ok (.imul, 1) := by decide +kernel
theorem dX12_keep_59 : decode cX12_keep 59 = .ok (.iload_n 2, 1) := by decide +kernel
theorem dX12_keep_60 : decode cX12_keep 60 = .ok (.iadd, 1) := by decide +kernel
theorem dX12_keep_61 : decode cX12_keep 61 = .ok (.aload_n 0, 1) := by decide +kernel
theorem dX12_keep_62 : decode cX12_keep 62 = .ok (.getfield 23, 3) := by decide +kernel
theorem dX12_keep_65 : decode cX12_keep 65 = .ok (.iload_n 2, 1) := by decide +kernel
theorem dX12_keep_66 : decode cX12_keep 66 = .ok (.iaload, 1) := by decide +kernel
theorem dX12_keep_67 : decode cX12_keep 67 = .ok (.iastore, 1) := by decide +kernel
theorem dX12_keep_68 : decode cX12_keep 68 = .ok (.iinc 2 1, 3) := by decide +kernel
theorem dX12_keep_71 : decode cX12_keep 71 = .ok (.goto (-28), 3) := by decide +kernel
theorem dX12_keep_74 : decode cX12_keep 74 = .ok (.aload_n 0, 1) := by decide +kernel
theorem dX12_keep_75 : decode cX12_keep 75 = .ok (.getfield 133, 3) := by decide +kernel
theorem dX12_keep_78 : decode cX12_keep 78 = .ok (.iload_n 1, 1) := by decide +kernel
theorem dX12_keep_79 : decode cX12_keep 79 = .ok (.iaload, 1) := by decide +kernel
theorem dX12_keep_80 : decode cX12_keep 80 = .ok (.ireturn, 1) := by decide +kernel
theorem dX12_clear_0 : decode cX12_clear 0 = .ok (.aload_n 0, 1) := by decide +kernel
theorem dX12_clear_1 : decode cX12_clear 1 = .ok (.iconst 0, 1) := by decide +kernel
theorem dX12_clear_2 : decode cX12_clear 2 = .ok (.putfield 139, 3) := by decide +kernel
theorem dX12_clear_5 : decode cX12_clear 5 = .ok (.iload_n 1, 1) := by decide +kernel
theorem dX12_clear_6 : decode cX12_clear 6 = .ok (.invokestatic 270, 3) := by decide +kernel
theorem dX12_clear_9 : decode cX12_clear 9 = .ok (.ifCond .ne 5, 3) := by decide +kernel
theorem dX12_clear_12 : decode cX12_clear 12 = .ok (.iconst (-1), 1) := by decide +kernel
theorem dX12_clear_13 : decode cX12_clear 13 = .ok (.ireturn, 1) := by decide +kernel
theorem dX12_clear_14 : decode cX12_clear 14 = .ok (.aload_n 0, 1) := by decide +kernel
theorem dX12_clear_15 : decode cX12_clear 15 = .ok (.getfield 124, 3) := by decide +kernel
theorem dX12_clear_18 : decode cX12_clear 18 = .ok (.iload_n 1, 1) := by decide +kernel
theorem dX12_clear_19 : decode cX12_clear 19 = .ok (.iaload, 1) := by decide +kernel
theorem dX12_clear_20 : decode cX12_clear 20 = .ok (.istore_n 2, 1) := by decide +kernel
theorem dX12_clear_21 : decode cX12_clear 21 = .ok (.aload_n 0, 1) := by decide +kernel
theorem dX12_clear_22 : decode cX12_clear 22 = .ok (.getfield 124, 3) := by decide +kernel
theorem dX12_clear_25 : decode cX12_clear 25 = .ok (.iload_n 1, 1) := by decide +kernel
theorem dX12_clear_26 : decode cX12_clear 26 = .ok (.iconst 0, 1) := by decide +kernel
theorem dX12_clear_27 : decode cX12_clear 27 = .ok (.iastore, 1) := by decide +kernel
theorem dX12_clear_28 : decode cX12_clear 28 = .ok (.iload_n 2, 1) := by decide +kernel
theorem dX12_clear_29 : decode cX12_clear 29 = .ok (.ireturn, 1) := by decide +kernel
theorem dX12_put_0 : decode cX12_put 0 = .ok (.aload_n 0, 1) := by decide +kernel
theorem dX12_put_1 : decode cX12_put 1 = .ok (.iconst 0, 1) := by decide +kernel
theorem dX12_put_2 : decode cX12_put 2 = .ok (.putfield 139, 3) := by decide +kernel
theorem dX12_put_5 : decode cX12_put 5 = .ok (.iload_n 1, 1) := by decide +kernel
theorem dX12_put_6 : decode cX12_put 6 = .ok (.invokestatic 270, 3) := by decide +kernel
theorem dX12_put_9 : decode cX12_put 9 = .ok (.ifCond .ne 5, 3) := by decide +kernel
theorem dX12_put_12 : decode cX12_put 12 = .ok (.iconst (-1), 1) := by decide +kernel
theorem dX12_put_13 : decode cX12_put 13 = .ok (.ireturn, 1) := by decide +kernel
theorem dX12_put_14 : decode cX12_put 14 = .ok (.aload_n 0, 1) := by decide +kernel
theorem dX12_put_15 : decode cX12_put 15 = .ok (.getfield 124, 3) := by decide +kernel
theorem dX12_put_18 : decode cX12_put 18 = .ok (.iload_n 1, 1) := by decide +kernel
theorem dX12_put_19 : decode cX12_put 19 = .ok (.iaload, 1) := by decide +kernel
theorem dX12_put_20 : decode cX12_put 20 = .ok (.ifCond .ne 10, 3) := by decide +kernel
theorem dX12_put_23 : decode cX12_put 23 = .ok (.aload_n 0, 1) := by decide +kernel
theorem dX12_put_24 : decode cX12_put 24 = .ok (.bipush (-11), 2) := by decide +kernel
theorem dX12_put_26 : decode cX12_put 26 = .ok (.invokevirtual 202, 3) := by decide +kernel
theorem dX12_put_29 : decode cX12_put 29 = .ok (.ireturn, 1) := by decide +kernel
theorem dX12_put_30 : decode cX12_put 30 = .ok (.aload_n 0, 1) := by decide +kernel
theorem dX12_put_31 : decode cX12_put 31 = .ok (.getfield 124, 3) := by decide +kernel
theorem dX12_put_34 : decode cX12_put 34 = .ok (.iload_n 1, 1) := by decide +kernel
theorem dX12_put_35 : decode cX12_put 35 = .ok (.iaload, 1) := by decide +kernel
theorem dX12_put_36 : decode cX12_put 36 = .ok (.iconst 4, 1) := by decide +kernel
theorem dX12_put_37 : decode cX12_put 37 = .ok (.if_icmp .ne 10, 3) := by decide +kernel
theorem dX12_put_40 : decode cX12_put 40 = .ok (.aload_n 0, 1) := by decide +kernel
theorem dX12_put_41 : decode cX12_put 41 = .ok (.bipush (-12), 2) := by decide +kernel
theorem dX12_put_43 : decode cX12_put 43 = .ok (.invokevirtual 202, 3) := by decide +kernel
theorem dX12_put_46 : decode cX12_put 46 = .ok (.ireturn, 1) := by decide +kernel
theorem dX12_put_47 : decode cX12_put 47 = .ok (.iload_n 2, 1) := by decide +kernel
theorem dX12_put_48 : decode cX12_put 48 = .ok (.iconst 0, 1) := by decide +kernel
theorem dX12_put_49 : decode cX12_put 49 = .ok (.aload_n 0, 1) := by decide +kernel
theorem dX12_put_50 : decode cX12_put 50 = .ok (.getfield 127, 3) := by decide +kernel
theorem dX12_put_53 : decode cX12_put 53 = .ok (.iload_n 1, 1) := by decide +kernel
theorem dX12_put_54 : decode cX12_put 54 = .ok (.iaload, 1) := by decide +kernel
theorem dX12_put_55 : decode cX12_put 55 = .ok (.iconst 1, 1) := by decide +kernel
theorem dX12_put_56 : decode cX12_put 56 = .ok (.isub, 1) := by decide +kernel
theorem dX12_put_57 : decode cX12_put 57 = .ok (.invokestatic 142, 3) := by decide +kernel
theorem dX12_put_60 : decode cX12_put 60 = .ok (.ifCond .ne 10, 3) := by decide +kernel
theorem dX12_put_63 : decode cX12_put 63 = .ok (.aload_n 0, 1) := by decide +kernel
theorem dX12_put_64 : decode cX12_put 64 = .ok (.bipush (-13), 2) := by decide +kernel
theorem dX12_put_66 : decode cX12_put 66 = .ok (.invokevirtual 202, 3) := by decide +kernel
theorem dX12_put_69 : decode cX12_put 69 = .ok (.ireturn, 1) := by decide +kernel
theorem dX12_put_70 : decode cX12_put 70 = .ok (.aload_n 0, 1) := by decide +kernel
theorem dX12_put_71 : decode cX12_put 71 = .ok (.getfield 130, 3) := by decide +kernel
theorem dX12_put_74 : decode cX12_put 74 = .ok (.bipush 60, 2) := by decide +kernel
theorem dX12_put_76 : decode cX12_put 76 = .ok (.iload_n 1, 1) := by decide +kernel
theorem dX12_put_77 : decode cX12_put 77 = .ok (.imul, 1) := by decide +kernel
theorem dX12_put_78 : decode cX12_put 78 = .ok (.iload_n 2, 1) := by decide +kernel
theorem dX12_put_79 : decode cX12_put 79 = .ok (.iadd, 1) := by decide +kernel
theorem dX12_put_80 : decode cX12_put 80 = .ok (.iaload, 1) := by decide +kernel
theorem dX12_put_81 : decode cX12_put 81 = .ok (.istore 4, 2) := by decide +kernel
theorem dX12_put_83 : decode cX12_put 83 = .ok (.aload_n 0, 1) := by decide +kernel
theorem dX12_put_84 : decode cX12_put 84 = .ok (.getfield 130, 3) := by decide +kernel
theorem dX12_put_87 : decode cX12_put 87 = .ok (.bipush 60, 2) := by decide +kernel
theorem dX12_put_89 : decode cX12_put 89 = .ok (.iload_n 1, 1) := by decide +kernel
theorem dX12_put_90 : decode cX12_put 90 = .ok (.imul, 1) := by decide +kernel
theorem dX12_put_91 : decode cX12_put 91 = .ok (.iload_n 2, 1) := by decide +kernel
theorem dX12_put_92 : decode cX12_put 92 = .ok (.iadd, 1) := by decide +kernel
theorem dX12_put_93 : decode cX12_put 93 = .ok (.aload_n 0, 1) := by decide +kernel
theorem dX12_put_94 : decode cX12_put 94 = .ok (.getfield 124, 3) := by decide +kernel
theorem dX12_put_97 : decode cX12_put 97 = .ok (.iload_n 1, 1) := by decide +kernel
theorem dX12_put_98 : decode cX12_put 98 = .ok (.iaload, 1) := by decide +kernel
theorem dX12_put_99 : decode cX12_put 99 = .ok (.iload_n 3, 1) := by decide +kernel
theorem dX12_put_100 : decode cX12_put 100 = .ok (.invokestatic 273, 3) := by decide +kernel
theorem dX12_put_103 : decode cX12_put 103 = .ok (.iastore, 1) := by decide +kernel
theorem dX12_put_104 : decode cX12_put 104 = .ok (.iload 4, 2) := by decide +kernel
theorem dX12_put_106 : decode cX12_put 106 = .ok (.ireturn, 1) := by decide +kernel
theorem dX12_at_0 : decode cX12_at 0 = .ok (.aload_n 0, 1) := by decide +kernel
theorem dX12_at_1 : decode cX12_at 1 = .ok (.iload_n 1, 1) := by decide +kernel
theorem dX12_at_2 : decode cX12_at 2 = .ok (.invokestatic 270, 3) := by decide +kernel
theorem dX12_at_5 : decode cX12_at 5 = .ok (.ifCond .ne 7, 3) := by decide +kernel
theorem dX12_at_8 : decode cX12_at 8 = .ok (.iconst 1, 1) := by decide +kernel
theorem dX12_at_9 : decode cX12_at 9 = .ok (.goto 43, 3) := by decide +kernel
theorem dX12_at_12 : decode cX12_at 12 = .ok (.aload_n 0, 1) := by decide +kernel
theorem dX12_at_13 : decode cX12_at 13 = .ok (.getfield 124, 3) := by decide +kernel
theorem dX12_at_16 : decode cX12_at 16 = .ok (.iload_n 1, 1) := by decide +kernel
theorem dX12_at_17 : decode cX12_at 17 = .ok (.iaload, 1) := by decide +kernel
theorem dX12_at_18 : decode cX12_at 18 = .ok (.ifCond .eq 29, 3) := by decide +kernel
theorem dX12_at_21 : decode cX12_at 21 = .ok (.aload_n 0, 1) := by decide +kernel
theorem dX12_at_22 : decode cX12_at 22 = .ok (.getfield 124, 3) := by decide +kernel
theorem dX12_at_25 : decode cX12_at 25 = .ok (.iload_n 1, 1) := by decide +kernel
theorem dX12_at_26 : decode cX12_at 26 = .ok (.iaload, 1) := by decide +kernel
theorem dX12_at_27 : decode cX12_at 27 = .ok (.iconst 4, 1) := by decide +kernel
theorem dX12_at_28 : decode cX12_at 28 = .ok (.if_icmp .eq 19, 3) := by decide +kernel
theorem dX12_at_31 : decode cX12_at 31 = .ok (.iload_n 2, 1) := by decide +kernel
theorem dX12_at_32 : decode cX12_at 32 = .ok (.iconst 0, 1) := by decide +kernel
theorem dX12_at_33 : decode cX12_at 33 = .ok (.aload_n 0, 1) := by decide +kernel
theorem dX12_at_34 : decode cX12_at 34 = .ok (.getfield 127, 3) := by decide +kernel
theorem dX12_at_37 : decode cX12_at 37 = .ok (.iload_n 1, 1) := by decide +kernel
theorem dX12_at_38 : decode cX12_at 38 = .ok (.iaload, 1) := by decide +kernel
theorem dX12_at_39 : decode cX12_at 39 = .ok (.iconst 1, 1) := by decide +kernel
theorem dX12_at_40 : decode cX12_at 40 = .ok (.isub, 1) := by decide +kernel
theorem dX12_at_41 : decode cX12_at 41 = .ok (.invokestatic 142, 3) := by decide +kernel
theorem dX12_at_44 : decode cX12_at 44 = .ok (.ifCond .ne 7, 3) := by decide +kernel
theorem dX12_at_47 : decode cX12_at 47 = .ok (.iconst 2, 1) := by decide +kernel
theorem dX12_at_48 : decode cX12_at 48 = .ok (.goto 4, 3) := by decide +kernel
theorem dX12_at_51 : decode cX12_at 51 = .ok (.iconst 0, 1) := by decide +kernel
theorem dX12_at_52 : decode cX12_at 52 = .ok (.putfield 139, 3) := by decide +kernel
theorem dX12_at_55 : decode cX12_at 55 = .ok (.aload_n 0, 1) := by decide +kernel
theorem dX12_at_56 : decode cX12_at 56 = .ok (.getfield 139, 3) := by decide +kernel
theorem dX12_at_59 : decode cX12_at 59 = .ok (.ifCond .ne 17, 3) := by decide +kernel
theorem dX12_at_62 : decode cX12_at 62 = .ok (.aload_n 0, 1) := by decide +kernel
theorem dX12_at_63 : decode cX12_at 63 = .ok (.getfield 130, 3) := by decide +kernel
theorem dX12_at_66 : decode cX12_at 66 = .ok (.bipush 60, 2) := by decide +kernel
theorem dX12_at_68 : decode cX12_at 68 = .ok (.iload_n 1, 1) := by decide +kernel
theorem dX12_at_69 : decode cX12_at 69 = .ok (.imul, 1) := by decide +kernel
theorem dX12_at_70 : decode cX12_at 70 = .ok (.iload_n 2, 1) := by decide +kernel
theorem dX12_at_71 : decode cX12_at 71 = .ok (.iadd, 1) := by decide +kernel
theorem dX12_at_72 : decode cX12_at 72 = .ok (.iaload, 1) := by decide +kernel
theorem dX12_at_73 : decode cX12_at 73 = .ok (.goto 4, 3) := by decide +kernel
theorem dX12_at_76 : decode cX12_at 76 = .ok (.iconst 0, 1) := by decide +kernel
theorem dX12_at_77 : decode cX12_at 77 = .ok (.ireturn, 1) := by decide +kernel
theorem dX12_copy_0 : decode cX12_copy 0 = .ok (.aload_n 0, 1) := by decide +kernel
theorem dX12_copy_1 : decode cX12_copy 1 = .ok (.iconst 0, 1) := by decide +kernel
theorem dX12_copy_2 : decode cX12_copy 2 = .ok (.putfield 139, 3) := by decide +kernel
theorem dX12_copy_5 : decode cX12_copy 5 = .ok (.iload_n 1, 1) := by decide +kernel
theorem dX12_copy_6 : decode cX12_copy 6 = .ok (.invokestatic 270, 3) := by decide +kernel
theorem dX12_copy_9 : decode cX12_copy 9 = .ok (.ifCond .eq 10, 3) := by decide +kernel
theorem dX12_copy_12 : decode cX12_copy 12 = .ok (.iload_n 3, 1) := by decide +kernel
theorem dX12_copy_13 : decode cX12_copy 13 = .ok (.invokestatic 270, 3) := by decide +kernel
theorem dX12_copy_16 : decode cX12_copy 16 = .ok (.ifCond .ne 5, 3) := by decide +kernel
theorem dX12_copy_19 : decode cX12_copy 19 = .ok (.iconst (-1), 1) := by decide +kernel
theorem dX12_copy_20 : decode cX12_copy 20 = .ok (.ireturn, 1) := by decide +kernel
theorem dX12_copy_21 : decode cX12_copy 21 = .ok (.aload_n 0, 1) := by decide +kernel
theorem dX12_copy_22 : decode cX12_copy 22 = .ok (.getfield 124, 3) := by decide +kernel
theorem dX12_copy_25 : decode cX12_copy 25 = .ok (.iload_n 1, 1) := by decide +kernel
theorem dX12_copy_26 : decode cX12_copy 26 = .ok (.iaload, 1) := by decide +kernel
theorem dX12_copy_27 : decode cX12_copy 27 = .ok (.ifCond .eq 12, 3) := by decide +kernel
theorem dX12_copy_30 : decode cX12_copy 30 = .ok (.aload_n 0, 1) := by decide +kernel
theorem dX12_copy_31 : decode cX12_copy 31 = .ok (.getfield 124, 3) := by decide +kernel
theorem dX12_copy_34 : decode cX12_copy 34 = .ok (.iload_n 3, 1) := by decide +kernel
theorem dX12_copy_35 : decode cX12_copy 35 = .ok (.iaload, 1) := by decide +kernel
theorem dX12_copy_36 : decode cX12_copy 36 = .ok (.ifCond .ne 10, 3) := by decide +kernel
theorem dX12_copy_39 : decode cX12_copy 39 = .ok (.aload_n 0, 1) := by decide +kernel
theorem dX12_copy_40 : decode cX12_copy 40 = .ok (.bipush (-11), 2) := by decide +kernel
theorem dX12_copy_42 : decode cX12_copy 42 = .ok (.invokevirtual 202, 3) := by decide +kernel
theorem dX12_copy_45 : decode cX12_copy 45 = .ok (.ireturn, 1) := by decide +kernel
theorem dX12_copy_46 : decode cX12_copy 46 = .ok (.aload_n 0, 1) := by decide +kernel
theorem dX12_copy_47 : decode cX12_copy 47 = .ok (.getfield 124, 3) := by decide +kernel
theorem dX12_copy_50 : decode cX12_copy 50 = .ok (.iload_n 1, 1) := by decide +kernel
theorem dX12_copy_51 : decode cX12_copy 51 = .ok (.iaload, 1) := by decide +kernel
theorem dX12_copy_52 : decode cX12_copy 52 = .ok (.iconst 4, 1) := by decide +kernel
theorem dX12_copy_53 : decode cX12_copy 53 = .ok (.if_icmp .eq 18, 3) := by decide +kernel
theorem dX12_copy_56 : decode cX12_copy 56 = .ok (.aload_n 0, 1) := by decide +kernel
theorem dX12_copy_57 : decode cX12_copy 57 = .ok (.getfield 124, 3) := by decide +kernel
theorem dX12_copy_60 : decode cX12_copy 60 = .ok (.iload_n 1, 1) := by decide +kernel
theorem dX12_copy_61 : decode cX12_copy 61 = .ok (.iaload, 1) := by decide +kernel
theorem dX12_copy_62 : decode cX12_copy 62 = .ok (.aload_n 0, 1) := by decide +kernel
theorem dX12_copy_63 : decode cX12_copy 63 = .ok (.getfield 124, 3) := by decide +kernel
theorem dX12_copy_66 : decode cX12_copy 66 = .ok (.iload_n 3, 1) := by decide +kernel
theorem dX12_copy_67 : decode cX12_copy 67 = .ok (.iaload, 1) := by decide +kernel
theorem dX12_copy_68 : decode cX12_copy 68 = .ok (.if_icmp .eq 10, 3) := by decide +kernel
theorem dX12_copy_71 : decode cX12_copy 71 = .ok (.aload_n 0, 1) := by decide +kernel
theorem dX12_copy_72 : decode cX12_copy 72 = .ok (.bipush (-12), 2) := by decide +kernel
theorem dX12_copy_74 : decode cX12_copy 74 = .ok (.invokevirtual 202, 3) := by decide +kernel
theorem dX12_copy_77 : decode cX12_copy 77 = .ok (.ireturn, 1) := by decide +kernel
theorem dX12_copy_78 : decode cX12_copy 78 = .ok (.iload 5, 2) := by decide +kernel
theorem dX12_copy_80 : decode cX12_copy 80 = .ok (.ifCond .lt 47, 3) := by decide +kernel
theorem dX12_copy_83 : decode cX12_copy 83 = .ok (.iload_n 2, 1) := by decide +kernel
theorem dX12_copy_84 : decode cX12_copy 84 = .ok (.ifCond .lt 43, 3) := by decide +kernel
theorem dX12_copy_87 : decode cX12_copy 87 = .ok (.iload 4, 2) := by decide +kernel
theorem dX12_copy_89 : decode cX12_copy 89 = .ok (.ifCond .lt 38, 3) := by decide +kernel
theorem dX12_copy_92 : decode cX12_copy 92 = .ok (.iload_n 2, 1) := by decide +kernel
theorem dX12_copy_93 : decode cX12_copy 93 = .ok (.i2l, 1) := by decide +kernel
theorem dX12_copy_94 : decode cX12_copy 94 = .ok (.iload 5, 2) := by decide +kernel
theorem dX12_copy_96 : decode cX12_copy 96 = .ok (.i2l, 1) := by decide +kernel
theorem dX12_copy_97 : decode cX12_copy 97 = .ok (.ladd, 1) := by decide +kernel
theorem dX12_copy_98 : decode cX12_copy 98 = .ok (.aload_n 0, 1) := by decide +kernel
theorem dX12_copy_99 : decode cX12_copy 99 = .ok (.getfield 127, 3) := by decide +kernel
theorem dX12_copy_102 : decode cX12_copy 102 = .ok (.iload_n 1, 1) := by decide +kernel
theorem dX12_copy_103 : decode cX12_copy 103 = .ok (.iaload, 1) := by decide +kernel
theorem dX12_copy_104 : decode cX12_copy 104 = .ok (.i2l, 1) := by decide +kernel
theorem dX12_copy_105 : decode cX12_copy 105 = .ok (.lcmp, 1) := by decide +kernel
theorem dX12_copy_106 : decode cX12_copy 106 = .ok (.ifCond .gt 21, 3) := by decide +kernel
theorem dX12_copy_109 : decode cX12_copy 109 = .ok (.iload 4, 2) := by decide +kernel
theorem dX12_copy_111 : decode cX12_copy 111 = .ok (.i2l, 1) := by decide +kernel
theorem dX12_copy_112 : decode cX12_copy 112 = .ok (.iload 5, 2) := by decide +kernel
theorem dX12_copy_114 : decode cX12_copy 114 = .ok (.i2l, 1) := by decide +kernel
theorem dX12_copy_115 : decode cX12_copy 115 = .ok (.ladd, 1) := by decide +kernel
theorem dX12_copy_116 : decode cX12_copy 116 = .ok (.aload_n 0, 1) := by decide +kernel
theorem dX12_copy_117 : decode cX12_copy 117 = .ok (.getfield 127, 3) := by decide +kernel
theorem dX12_copy_120 : decode cX12_copy 120 = .ok (.iload_n 3, 1) := by decide +kernel
theorem dX12_copy_121 : decode cX12_copy 121 = .ok (.iaload, 1) := by decide +kernel
theorem dX12_copy_122 : decode cX12_copy 122 = .ok (.i2l, 1) := by decide +kernel
theorem dX12_copy_123 : decode cX12_copy 123 = .ok (.lcmp, 1) := by decide +kernel
theorem dX12_copy_124 : decode cX12_copy 124 = .ok (.ifCond .le 10, 3) := by decide +kernel
theorem dX12_copy_127 : decode cX12_copy 127 = .ok (.aload_n 0, 1) := by decide +kernel
theorem dX12_copy_128 : decode cX12_copy 128 = .ok (.bipush (-13), 2) := by decide +kernel
theorem dX12_copy_130 : decode cX12_copy 130 = .ok (.invokevirtual 202, 3) := by decide +kernel
theorem dX12_copy_133 : decode cX12_copy 133 = .ok (.ireturn, 1) := by decide +kernel
theorem dX12_copy_134 : decode cX12_copy 134 = .ok (.iconst 0, 1) := by decide +kernel
theorem dX12_copy_135 : decode cX12_copy 135 = .ok (.istore 6, 2) := by decide +kernel
theorem dX12_copy_137 : decode cX12_copy 137 = .ok (.iload 6, 2) := by decide +kernel
theorem dX12_copy_139 : decode cX12_copy 139 = .ok (.iload 5, 2) := by decide +kernel
theorem dX12_copy_141 : decode cX12_copy 141 = .ok (.if_icmp .ge 30, 3) := by decide +kernel
theorem dX12_copy_144 : decode cX12_copy 144 = .ok (.aload_n 0, 1) := by decide +kernel
theorem dX12_copy_145 : decode cX12_copy 145 = .ok (.getfield 136, 3) := by decide +kernel
theorem dX12_copy_148 : decode cX12_copy 148 = .ok (.iload 6, 2) := by decide +kernel
theorem dX12_copy_150 : decode cX12_copy 150 = .ok (.aload_n 0, 1) := by decide +kernel
theorem dX12_copy_151 : decode cX12_copy 151 = .ok (.getfield 130, 3) := by decide +kernel
theorem dX12_copy_154 : decode cX12_copy 154 = .ok (.bipush 60, 2) := by decide +kernel
theorem dX12_copy_156 : decode cX12_copy 156 = .ok (.iload_n 1, 1) := by decide +kernel
theorem dX12_copy_157 : decode cX12_copy 157 = .ok (.imul, 1) := by decide +kernel
theorem dX12_copy_158 : decode cX12_copy 158 = .ok (.iload_n 2, 1) := by decide +kernel
theorem dX12_copy_159 : decode cX12_copy 159 = .ok (.iadd, 1) := by decide +kernel
theorem dX12_copy_160 : decode cX12_copy 160 = .ok (.iload 6, 2) := by decide +kernel
theorem dX12_copy_162 : decode cX12_copy 162 = .ok (.iadd, 1) := by decide +kernel
theorem dX12_copy_163 : decode cX12_copy 163 = .ok (.iaload, 1) := by decide +kernel
theorem dX12_copy_164 : decode cX12_copy 164 = .ok (.iastore, 1) := by decide +kernel
theorem dX12_copy_165 : decode cX12_copy 165 = .ok (.iinc 6 1, 3) := by decide +kernel
theorem dX12_copy_168 : decode cX12_copy 168 = .ok (.goto (-31), 3) := by decide +kernel
theorem dX12_copy_171 : decode cX12_copy 171 = .ok (.iconst 0, 1) := by decide +kernel
theorem dX12_copy_172 : decode cX12_copy 172 = .ok (.istore 6, 2) := by decide +kernel
theorem dX12_copy_174 : decode cX12_copy 174 = .ok (.iload 6, 2) := by decide +kernel
theorem dX12_copy_176 : decode cX12_copy 176 = .ok (.iload 5, 2) := by decide +kernel
theorem dX12_copy_178 : decode cX12_copy 178 = .ok (.if_icmp .ge 31, 3) := by decide +kernel
theorem dX12_copy_181 : decode cX12_copy 181 = .ok (.aload_n 0, 1) := by decide +kernel
theorem dX12_copy_182 : decode cX12_copy 182 = .ok (.getfield 130, 3) := by decide +kernel
theorem dX12_copy_185 : decode cX12_copy 185 = .ok (.bipush 60, 2) := by decide +kernel
theorem dX12_copy_187 : decode cX12_copy 187 = .ok (.iload_n 3, 1) := by decide +kernel
theorem dX12_copy_188 : decode cX12_copy 188 = .ok (.imul, 1) := by decide +kernel
theorem dX12_copy_189 : decode cX12_copy 189 = .ok (.iload 4, 2) := by decide +kernel
theorem dX12_copy_191 : decode cX12_copy 191 = .ok (.iadd, 1) := by decide +kernel
theorem dX12_copy_192 : decode cX12_copy 192 = .ok (.iload 6, 2) := by decide +kernel
theorem dX12_copy_194 : decode cX12_copy 194 = .ok (.iadd, 1) := by decide +kernel
theorem dX12_copy_195 : decode cX12_copy 195 = .ok (.aload_n 0, 1) := by decide +kernel
theorem dX12_copy_196 : decode cX12_copy 196 = .ok (.getfield 136, 3) := by decide +kernel
theorem dX12_copy_199 : decode cX12_copy 199 = .ok (.iload 6, 2) := by decide +kernel
theorem dX12_copy_201 : decode cX12_copy 201 = .ok (.iaload, 1) := by decide +kernel
theorem dX12_copy_202 : decode cX12_copy 202 = .ok (.iastore, 1) := by decide +kernel
theorem dX12_copy_203 : decode cX12_copy 203 = .ok (.iinc 6 1, 3) := by decide +kernel
theorem dX12_copy_206 : decode cX12_copy 206 = .ok (.goto (-32), 3) := by decide +kernel
theorem dX12_copy_209 : decode cX12_copy 209 = .ok (.iload 5, 2) := by decide +kernel
theorem dX12_copy_211 : decode cX12_copy 211 = .ok (.ireturn, 1) := by decide +kernel
theorem dX12_take_0 : decode cX12_take 0 = .ok (.aload_n 0, 1) := by decide +kernel
theorem dX12_take_1 : decode cX12_take 1 = .ok (.iconst 0, 1) := by decide +kernel
theorem dX12_take_2 : decode cX12_take 2 = .ok (.putfield 139, 3) := by decide +kernel
theorem dX12_take_5 : decode cX12_take 5 = .ok (.iload_n 1, 1) := by decide +kernel
theorem dX12_take_6 : decode cX12_take 6 = .ok (.invokestatic 270, 3) := by decide +kernel
theorem dX12_take_9 : decode cX12_take 9 = .ok (.ifCond .ne 5, 3) := by decide +kernel
theorem dX12_take_12 : decode cX12_take 12 = .ok (.iconst (-1), 1) := by decide +kernel
theorem dX12_take_13 : decode cX12_take 13 = .ok (.ireturn, 1) := by decide +kernel
theorem dX12_take_14 : decode cX12_take 14 = .ok (.aload_n 0, 1) := by decide +kernel
theorem dX12_take_15 : decode cX12_take 15 = .ok (.getfield 124, 3) := by decide +kernel
theorem dX12_take_18 : decode cX12_take 18 = .ok (.iload_n 1, 1) := by decide +kernel
theorem dX12_take_19 : decode cX12_take 19 = .ok (.iaload, 1) := by decide +kernel
theorem dX12_take_20 : decode cX12_take 20 = .ok (.ifCond .ne 10, 3) := by decide +kernel
theorem dX12_take_23 : decode cX12_take 23 = .ok (.aload_n 0, 1) := by decide +kernel
theorem dX12_take_24 : decode cX12_take 24 = .ok (.bipush (-11), 2) := by decide +kernel
theorem dX12_take_26 : decode cX12_take 26 = .ok (.invokevirtual 202, 3) := by decide +kernel
theorem dX12_take_29 : decode cX12_take 29 = .ok (.ireturn, 1) := by decide +kernel
theorem dX12_take_30 : decode cX12_take 30 = .ok (.aload_n 0, 1) := by decide +kernel
theorem dX12_take_31 : decode cX12_take 31 = .ok (.getfield 124, 3) := by decide +kernel
theorem dX12_take_34 : decode cX12_take 34 = .ok (.iload_n 1, 1) := by decide +kernel
theorem dX12_take_35 : decode cX12_take 35 = .ok (.iaload, 1) := by decide +kernel
theorem dX12_take_36 : decode cX12_take 36 = .ok (.iconst 4, 1) := by decide +kernel
theorem dX12_take_37 : decode cX12_take 37 = .ok (.if_icmp .ne 10, 3) := by decide +kernel
theorem dX12_take_40 : decode cX12_take 40 = .ok (.aload_n 0, 1) := by decide +kernel
theorem dX12_take_41 : decode cX12_take 41 = .ok (.bipush (-12), 2) := by decide +kernel
theorem dX12_take_43 : decode cX12_take 43 = .ok (.invokevirtual 202, 3) := by decide +kernel
theorem dX12_take_46 : decode cX12_take 46 = .ok (.ireturn, 1) := by decide +kernel
theorem dX12_take_47 : decode cX12_take 47 = .ok (.iload_n 2, 1) := by decide +kernel
theorem dX12_take_48 : decode cX12_take 48 = .ok (.ifCond .lt 22, 3) := by decide +kernel
theorem dX12_take_51 : decode cX12_take 51 = .ok (.iload_n 2, 1) := by decide +kernel
theorem dX12_take_52 : decode cX12_take 52 = .ok (.i2l, 1) := by decide +kernel
theorem dX12_take_53 : decode cX12_take 53 = .ok (.aload_n 0, 1) := by decide +kernel
theorem dX12_take_54 : decode cX12_take 54 = .ok (.getfield 7, 3) := by decide +kernel
theorem dX12_take_57 : decode cX12_take 57 = .ok (.i2l, 1) := by decide +kernel
theorem dX12_take_58 : decode cX12_take 58 = .ok (.ladd, 1) := by decide +kernel
theorem dX12_take_59 : decode cX12_take 59 = .ok (.aload_n 0, 1) := by decide +kernel
theorem dX12_take_60 : decode cX12_take 60 = .ok (.getfield 127, 3) := by decide +kernel
theorem dX12_take_63 : decode cX12_take 63 = .ok (.iload_n 1, 1) := by decide +kernel
theorem dX12_take_64 : decode cX12_take 64 = .ok (.iaload, 1) := by decide +kernel
theorem dX12_take_65 : decode cX12_take 65 = .ok (.i2l, 1) := by decide +kernel
theorem dX12_take_66 : decode cX12_take 66 = .ok (.lcmp, 1) := by decide +kernel
theorem dX12_take_67 : decode cX12_take 67 = .ok (.ifCond .le 10, 3) := by decide +kernel
theorem dX12_take_70 : decode cX12_take 70 = .ok (.aload_n 0, 1) := by decide +kernel
theorem dX12_take_71 : decode cX12_take 71 = .ok (.bipush (-13), 2) := by decide +kernel
theorem dX12_take_73 : decode cX12_take 73 = .ok (.invokevirtual 202, 3) := by decide +kernel
theorem dX12_take_76 : decode cX12_take 76 = .ok (.ireturn, 1) := by decide +kernel
theorem dX12_take_77 : decode cX12_take 77 = .ok (.aload_n 0, 1) := by decide +kernel
theorem dX12_take_78 : decode cX12_take 78 = .ok (.getfield 124, 3) := by decide +kernel
theorem dX12_take_81 : decode cX12_take 81 = .ok (.iload_n 1, 1) := by decide +kernel
theorem dX12_take_82 : decode cX12_take 82 = .ok (.iaload, 1) := by decide +kernel
theorem dX12_take_83 : decode cX12_take 83 = .ok (.iconst 2, 1) := by decide +kernel
theorem dX12_take_84 : decode cX12_take 84 = .ok (.if_icmp .ne 9, 3) := by decide +kernel
theorem dX12_take_87 : decode cX12_take 87 = .ok (.ldc_w 269, 3) := by decide +kernel
theorem dX12_take_90 : decode cX12_take 90 = .ok (.goto 4, 3) := by decide +kernel
theorem dX12_take_93 : decode cX12_take 93 = .ok (.iconst (-1), 1) := by decide +kernel
theorem dX12_take_94 : decode cX12_take 94 = .ok (.istore_n 3, 1) := by decide +kernel
theorem dX12_take_95 : decode cX12_take 95 = .ok (.iconst 0, 1) := by decide +kernel
theorem dX12_take_96 : decode cX12_take 96 = .ok (.istore 4, 2) := by decide +kernel
theorem dX12_take_98 : decode cX12_take 98 = .ok (.iload 4, 2) := by decide +kernel
theorem dX12_take_100 : decode cX12_take 100 = .ok (.aload_n 0, 1) := by decide +kernel
theorem dX12_take_101 : decode cX12_take 101 = .ok (.getfield 7, 3) := by decide +kernel
theorem dX12_take_104 : decode cX12_take 104 = .ok (.if_icmp .ge 49, 3) := by decide +kernel
theorem dX12_take_107 : decode cX12_take 107 = .ok (.aload_n 0, 1) := by decide +kernel
theorem dX12_take_108 : decode cX12_take 108 = .ok (.getfield 130, 3) := by decide +kernel
theorem dX12_take_111 : decode cX12_take 111 = .ok (.bipush 60, 2) := by decide +kernel
theorem dX12_take_113 : decode cX12_take 113 = .ok (.iload_n 1, 1) := by decide +kernel
theorem dX12_take_114 : decode cX12_take 114 = .ok (.imul, 1) := by decide +kernel
theorem dX12_take_115 : decode cX12_take 115 = .ok (.iload_n 2, 1) := by decide +kernel
theorem dX12_take_116 : decode cX12_take 116 = .ok (.iadd, 1) := by decide +kernel
theorem dX12_take_117 : decode cX12_take 117 = .ok (.iload 4, 2) := by decide +kernel
theorem dX12_take_119 : decode cX12_take 119 = .ok (.iadd, 1) := by decide +kernel
theorem dX12_take_120 : decode cX12_take 120 = .ok (.iaload, 1) := by decide +kernel
theorem dX12_take_121 : decode cX12_take 121 = .ok (.istore 5, 2) := by decide +kernel
theorem dX12_take_123 : decode cX12_take 123 = .ok (.iload 5, 2) := by decide +kernel
theorem dX12_take_125 : decode cX12_take 125 = .ok (.iload_n 3, 1) := by decide +kernel
theorem dX12_take_126 : decode cX12_take 126 = .ok (.if_icmp .eq 21, 3) := by decide +kernel
theorem dX12_take_129 : decode cX12_take 129 = .ok (.iload 5, 2) := by decide +kernel
theorem dX12_take_131 : decode cX12_take 131 = .ok (.iconst 0, 1) := by decide +kernel
theorem dX12_take_132 : decode cX12_take 132 = .ok (.aload_n 0, 1) := by decide +kernel
theorem dX12_take_133 : decode cX12_take 133 = .ok (.getfield 13, 3) := by decide +kernel
theorem dX12_take_136 : decode cX12_take 136 = .ok (.iconst 1, 1) := by decide +kernel
theorem dX12_take_137 : decode cX12_take 137 = .ok (.isub, 1) := by decide +kernel
theorem dX12_take_138 : decode cX12_take 138 = .ok (.invokestatic 142, 3) := by decide +kernel
theorem dX12_take_141 : decode cX12_take 141 = .ok (.ifCond .ne 6, 3) := by decide +kernel
theorem dX12_take_144 : decode cX12_take 144 = .ok (.bipush (-16), 2) := by decide +kernel
theorem dX12_take_146 : decode cX12_take 146 = .ok (.ireturn, 1) := by decide +kernel
theorem dX12_take_147 : decode cX12_take 147 = .ok (.iinc 4 1, 3) := by decide +kernel
theorem dX12_take_150 : decode cX12_take 150 = .ok (.goto (-52), 3) := by decide +kernel
theorem dX12_take_153 : decode cX12_take 153 = .ok (.iconst 0, 1) := by decide +kernel
theorem dX12_take_154 : decode cX12_take 154 = .ok (.istore 4, 2) := by decide +kernel
theorem dX12_take_156 : decode cX12_take 156 = .ok (.iload 4, 2) := by decide +kernel
theorem dX12_take_158 : decode cX12_take 158 = .ok (.aload_n 0, 1) := by decide +kernel
theorem dX12_take_159 : decode cX12_take 159 = .ok (.getfield 7, 3) := by decide +kernel
theorem dX12_take_162 : decode cX12_take 162 = .ok (.if_icmp .ge 44, 3) := by decide +kernel
theorem dX12_take_165 : decode cX12_take 165 = .ok (.aload_n 0, 1) := by decide +kernel
theorem dX12_take_166 : decode cX12_take 166 = .ok (.getfield 130, 3) := by decide +kernel
theorem dX12_take_169 : decode cX12_take 169 = .ok (.bipush 60, 2) := by decide +kernel
theorem dX12_take_171 : decode cX12_take 171 = .ok (.iload_n 1, 1) := by decide +kernel
theorem dX12_take_172 : decode cX12_take 172 = .ok (.imul, 1) := by decide +kernel
theorem dX12_take_173 : decode cX12_take 173 = .ok (.iload_n 2, 1) := by decide +kernel
theorem dX12_take_174 : decode cX12_take 174 = .ok (.iadd, 1) := by decide +kernel
theorem dX12_take_175 : decode cX12_take 175 = .ok (.iload 4, 2) := by decide +kernel
theorem dX12_take_177 : decode cX12_take 177 = .ok (.iadd, 1) := by decide +kernel
theorem dX12_take_178 : decode cX12_take 178 = .ok (.iaload, 1) := by decide +kernel
theorem dX12_take_179 : decode cX12_take 179 = .ok (.istore 5, 2) := by decide +kernel
theorem dX12_take_181 : decode cX12_take 181 = .ok (.aload_n 0, 1) := by decide +kernel
theorem dX12_take_182 : decode cX12_take 182 = .ok (.getfield 23, 3) := by decide +kernel
theorem dX12_take_185 : decode cX12_take 185 = .ok (.iload 4, 2) := by decide +kernel
theorem dX12_take_187 : decode cX12_take 187 = .ok (.iload 5, 2) := by decide +kernel
theorem dX12_take_189 : decode cX12_take 189 = .ok (.iload_n 3, 1) := by decide +kernel
theorem dX12_take_190 : decode cX12_take 190 = .ok (.if_icmp .ne 7, 3) := by decide +kernel
theorem dX12_take_193 : decode cX12_take 193 = .ok (.iconst (-1), 1) := by decide +kernel
theorem dX12_take_194 : decode cX12_take 194 = .ok (.goto 5, 3) := by decide +kernel
theorem dX12_take_197 : decode cX12_take 197 = .ok (.iload 5, 2) := by decide +kernel
theorem dX12_take_199 : decode cX12_take 199 = .ok (.iastore, 1) := by decide +kernel
theorem dX12_take_200 : decode cX12_take 200 = .ok (.iinc 4 1, 3) := by decide +kernel
theorem dX12_take_203 : decode cX12_take 203 = .ok (.goto (-47), 3) := by decide +kernel
theorem dX12_take_206 : decode cX12_take 206 = .ok (.aload_n 0, 1) := by decide +kernel
theorem dX12_take_207 : decode cX12_take 207 = .ok (.invokevirtual 205, 3) := by decide +kernel
theorem dX12_take_210 : decode cX12_take 210 = .ok (.ireturn, 1) := by decide +kernel
theorem dX12_pegs_0 : decode cX12_pegs 0 = .ok (.iconst 0, 1) := by decide +kernel
theorem dX12_pegs_1 : decode cX12_pegs 1 = .ok (.istore_n 2, 1) := by decide +kernel
theorem dX12_pegs_2 : decode cX12_pegs 2 = .ok (.iconst 0, 1) := by decide +kernel
theorem dX12_pegs_3 : decode cX12_pegs 3 = .ok (.istore_n 3, 1) := by decide +kernel
theorem dX12_pegs_4 : decode cX12_pegs 4 = .ok (.iload_n 3, 1) := by decide +kernel
theorem dX12_pegs_5 : decode cX12_pegs 5 = .ok (.aload_n 0, 1) := by decide +kernel
theorem dX12_pegs_6 : decode cX12_pegs 6 = .ok (.getfield 127, 3) := by decide +kernel
theorem dX12_pegs_9 : decode cX12_pegs 9 = .ok (.iload_n 1, 1) := by decide +kernel
theorem dX12_pegs_10 : decode cX12_pegs 10 = .ok (.iaload, 1) := by decide +kernel
theorem dX12_pegs_11 : decode cX12_pegs 11 = .ok (.if_icmp .ge 31, 3) := by decide +kernel
theorem dX12_pegs_14 : decode cX12_pegs 14 = .ok (.iload_n 2, 1) := by decide +kernel
theorem dX12_pegs_15 : decode cX12_pegs 15 = .ok (.aload_n 0, 1) := by decide +kernel
theorem dX12_pegs_16 : decode cX12_pegs 16 = .ok (.getfield 130, 3) := by decide +kernel
theorem dX12_pegs_19 : decode cX12_pegs 19 = .ok (.bipush 60, 2) := by decide +kernel
theorem dX12_pegs_21 : decode cX12_pegs 21 = .ok (.iload_n 1, 1) := by decide +kernel
theorem dX12_pegs_22 : decode cX12_pegs 22 = .ok (.imul, 1) := by decide +kernel
theorem dX12_pegs_23 : decode cX12_pegs 23 = .ok (.iload_n 3, 1) := by decide +kernel
theorem dX12_pegs_24 : decode cX12_pegs 24 = .ok (.iadd, 1) := by decide +kernel
theorem dX12_pegs_25 : decode cX12_pegs 25 = .ok (.iaload, 1) := by decide +kernel
theorem dX12_pegs_26 : decode cX12_pegs 26 = .ok (.ifCond .lt 7, 3) := by decide +kernel
theorem dX12_pegs_29 : decode cX12_pegs 29 = .ok (.iconst 1, 1) := by decide +kernel
theorem dX12_pegs_30 : decode cX12_pegs 30 = .ok (.goto 4, 3) := by decide +kernel
theorem dX12_pegs_33 : decode cX12_pegs 33 = .ok (.iconst 0, 1) := by decide +kernel
theorem dX12_pegs_34 : decode cX12_pegs 34 = .ok (.iadd, 1) := by decide +kernel
theorem dX12_pegs_35 : decode cX12_pegs 35 = .ok (.istore_n 2, 1) := by decide +kernel
theorem dX12_pegs_36 : decode cX12_pegs 36 = .ok (.iinc 3 1, 3) := by decide +kernel
theorem dX12_pegs_39 : decode cX12_pegs 39 = .ok (.goto (-35), 3) := by decide +kernel
theorem dX12_pegs_42 : decode cX12_pegs 42 = .ok (.iload_n 2, 1) := by decide +kernel
theorem dX12_pegs_43 : decode cX12_pegs 43 = .ok (.ireturn, 1) := by decide +kernel
theorem dX12_weight_0 : decode cX12_weight 0 = .ok (.aload_n 0, 1) := by decide +kernel
theorem dX12_weight_1 : decode cX12_weight 1 = .ok (.iload_n 1, 1) := by decide +kernel
theorem dX12_weight_2 : decode cX12_weight 2 = .ok (.invokevirtual 276, 3) := by decide +kernel
theorem dX12_weight_5 : decode cX12_weight 5 = .ok (.istore_n 2, 1) := by decide +kernel
theorem dX12_weight_6 : decode cX12_weight 6 = .ok (.aload_n 0, 1) := by decide +kernel
theorem dX12_weight_7 : decode cX12_weight 7 = .ok (.getfield 133, 3) := by decide +kernel
theorem dX12_weight_10 : decode cX12_weight 10 = .ok (.iload_n 1, 1) := by decide +kernel
theorem dX12_weight_11 : decode cX12_weight 11 = .ok (.iaload, 1) := by decide +kernel
theorem dX12_weight_12 : decode cX12_weight 12 = .ok (.tableswitch 57 0 3 #[32, 45, 50, 34], 32) := by decide +kernel
theorem dX12_weight_44 : decode cX12_weight 44 = .ok (.iload_n 2, 1) := by decide +kernel
theorem dX12_weight_45 : decode cX12_weight 45 = .ok (.ireturn, 1) := by decide +kernel
theorem dX12_weight_46 : decode cX12_weight 46 = .ok (.iload_n 2, 1) := by decide +kernel
theorem dX12_weight_47 : decode cX12_weight 47 = .ok (.aload_n 0, 1) := by decide +kernel
theorem dX12_weight_48 : decode cX12_weight 48 = .ok (.getfield 127, 3) := by decide +kernel
theorem dX12_weight_51 : decode cX12_weight 51 = .ok (.iload_n 1, 1) := by decide +kernel
theorem dX12_weight_52 : decode cX12_weight 52 = .ok (.iaload, 1) := by decide +kernel
theorem dX12_weight_53 : decode cX12_weight 53 = .ok (.iload_n 2, 1) := by decide +kernel
theorem dX12_weight_54 : decode cX12_weight 54 = .ok (.isub, 1) := by decide +kernel
theorem dX12_weight_55 : decode cX12_weight 55 = .ok (.isub, 1) := by decide +kernel
theorem dX12_weight_56 : decode cX12_weight 56 = .ok (.ireturn, 1) := by decide +kernel
theorem dX12_weight_57 : decode cX12_weight 57 = .ok (.iload_n 2, 1) := by decide +kernel
theorem dX12_weight_58 : decode cX12_weight 58 = .ok (.bipush 10, 2) := by decide +kernel
theorem dX12_weight_60 : decode cX12_weight 60 = .ok (.iadd, 1) := by decide +kernel
theorem dX12_weight_61 : decode cX12_weight 61 = .ok (.ireturn, 1) := by decide +kernel
theorem dX12_weight_62 : decode cX12_weight 62 = .ok (.iconst 2, 1) := by decide +kernel
theorem dX12_weight_63 : decode cX12_weight 63 = .ok (.iload_n 2, 1) := by decide +kernel
theorem dX12_weight_64 : decode cX12_weight 64 = .ok (.bipush 10, 2) := by decide +kernel
theorem dX12_weight_66 : decode cX12_weight 66 = .ok (.iadd, 1) := by decide +kernel
theorem dX12_weight_67 : decode cX12_weight 67 = .ok (.imul, 1) := by decide +kernel
theorem dX12_weight_68 : decode cX12_weight 68 = .ok (.ireturn, 1) := by decide +kernel
theorem dX12_weight_69 : decode cX12_weight 69 = .ok (.iconst 2, 1) := by decide +kernel
theorem dX12_weight_70 : decode cX12_weight 70 = .ok (.iload_n 2, 1) := by decide +kernel
theorem dX12_weight_71 : decode cX12_weight 71 = .ok (.bipush 10, 2) := by decide +kernel
theorem dX12_weight_73 : decode cX12_weight 73 = .ok (.iadd, 1) := by decide +kernel
theorem dX12_weight_74 : decode cX12_weight 74 = .ok (.imul, 1) := by decide +kernel
theorem dX12_weight_75 : decode cX12_weight 75 = .ok (.iconst 1, 1) := by decide +kernel
theorem dX12_weight_76 : decode cX12_weight 76 = .ok (.iadd, 1) := by decide +kernel
theorem dX12_weight_77 : decode cX12_weight 77 = .ok (.ireturn, 1) := by decide +kernel
theorem dX12_kept_0 : decode cX12_kept 0 = .ok (.aload_n 0, 1) := by decide +kernel
theorem dX12_kept_1 : decode cX12_kept 1 = .ok (.iconst 0, 1) := by decide +kernel
theorem dX12_kept_2 : decode cX12_kept 2 = .ok (.putfield 139, 3) := by decide +kernel
theorem dX12_kept_5 : decode cX12_kept 5 = .ok (.iload_n 1, 1) := by decide +kernel
theorem dX12_kept_6 : decode cX12_kept 6 = .ok (.invokestatic 270, 3) := by decide +kernel
theorem dX12_kept_9 : decode cX12_kept 9 = .ok (.ifCond .eq 13, 3) := by decide +kernel
theorem dX12_kept_12 : decode cX12_kept 12 = .ok (.iload_n 2, 1) := by decide +kernel
theorem dX12_kept_13 : decode cX12_kept 13 = .ok (.iconst 0, 1) := by decide +kernel
theorem dX12_kept_14 : decode cX12_kept 14 = .ok (.bipush 8, 2) := by decide +kernel
theorem dX12_kept_16 : decode cX12_kept 16 = .ok (.invokestatic 142, 3) := by decide +kernel
theorem dX12_kept_19 : decode cX12_kept 19 = .ok (.ifCond .ne 5, 3) := by decide +kernel
theorem dX12_kept_22 : decode cX12_kept 22 = .ok (.iconst (-1), 1) := by decide +kernel
theorem dX12_kept_23 : decode cX12_kept 23 = .ok (.ireturn, 1) := by decide +kernel
theorem dX12_kept_24 : decode cX12_kept 24 = .ok (.aload_n 0, 1) := by decide +kernel
theorem dX12_kept_25 : decode cX12_kept 25 = .ok (.getfield 124, 3) := by decide +kernel
theorem dX12_kept_28 : decode cX12_kept 28 = .ok (.iload_n 1, 1) := by decide +kernel
theorem dX12_kept_29 : decode cX12_kept 29 = .ok (.iaload, 1) := by decide +kernel
theorem dX12_kept_30 : decode cX12_kept 30 = .ok (.ifCond .ne 10, 3) := by decide +kernel
theorem dX12_kept_33 : decode cX12_kept 33 = .ok (.aload_n 0, 1) := by decide +kernel
theorem dX12_kept_34 : decode cX12_kept 34 = .ok (.bipush (-11), 2) := by decide +kernel
theorem dX12_kept_36 : decode cX12_kept 36 = .ok (.invokevirtual 202, 3) := by decide +kernel
theorem dX12_kept_39 : decode cX12_kept 39 = .ok (.ireturn, 1) := by decide +kernel
theorem dX12_kept_40 : decode cX12_kept 40 = .ok (.aload_n 0, 1) := by decide +kernel
theorem dX12_kept_41 : decode cX12_kept 41 = .ok (.getfield 124, 3) := by decide +kernel
theorem dX12_kept_44 : decode cX12_kept 44 = .ok (.iload_n 1, 1) := by decide +kernel
theorem dX12_kept_45 : decode cX12_kept 45 = .ok (.iaload, 1) := by decide +kernel
theorem dX12_kept_46 : decode cX12_kept 46 = .ok (.iconst 4, 1) := by decide +kernel
theorem dX12_kept_47 : decode cX12_kept 47 = .ok (.if_icmp .eq 10, 3) := by decide +kernel
theorem dX12_kept_50 : decode cX12_kept 50 = .ok (.aload_n 0, 1) := by decide +kernel
theorem dX12_kept_51 : decode cX12_kept 51 = .ok (.bipush (-12), 2) := by decide +kernel
theorem dX12_kept_53 : decode cX12_kept 53 = .ok (.invokevirtual 202, 3) := by decide +kernel
theorem dX12_kept_56 : decode cX12_kept 56 = .ok (.ireturn, 1) := by decide +kernel
theorem dX12_kept_57 : decode cX12_kept 57 = .ok (.aload_n 0, 1) := by decide +kernel
theorem dX12_kept_58 : decode cX12_kept 58 = .ok (.getfield 133, 3) := by decide +kernel
theorem dX12_kept_61 : decode cX12_kept 61 = .ok (.iload_n 1, 1) := by decide +kernel
theorem dX12_kept_62 : decode cX12_kept 62 = .ok (.iaload, 1) := by decide +kernel
theorem dX12_kept_63 : decode cX12_kept 63 = .ok (.istore_n 3, 1) := by decide +kernel
theorem dX12_kept_64 : decode cX12_kept 64 = .ok (.iload_n 2, 1) := by decide +kernel
theorem dX12_kept_65 : decode cX12_kept 65 = .ok (.tableswitch 75 0 3 #[31, 33, 39, 68], 31) := by decide +kernel
theorem dX12_kept_96 : decode cX12_kept 96 = .ok (.iload_n 3, 1) := by decide +kernel
theorem dX12_kept_97 : decode cX12_kept 97 = .ok (.ireturn, 1) := by decide +kernel
theorem dX12_kept_98 : decode cX12_kept 98 = .ok (.aload_n 0, 1) := by decide +kernel
theorem dX12_kept_99 : decode cX12_kept 99 = .ok (.iload_n 1, 1) := by decide +kernel
theorem dX12_kept_100 : decode cX12_kept 100 = .ok (.invokevirtual 279, 3) := by decide +kernel
theorem dX12_kept_103 : decode cX12_kept 103 = .ok (.ireturn, 1) := by decide +kernel
theorem dX12_kept_104 : decode cX12_kept 104 = .ok (.iload_n 3, 1) := by decide +kernel
theorem dX12_kept_105 : decode cX12_kept 105 = .ok (.ifCond .ne 7, 3) := by decide +kernel
theorem dX12_kept_108 : decode cX12_kept 108 = .ok (.iconst 1, 1) := by decide +kernel
theorem dX12_kept_109 : decode cX12_kept 109 = .ok (.goto 23, 3) := by decide +kernel
theorem dX12_kept_112 : decode cX12_kept 112 = .ok (.iload_n 3, 1) := by decide +kernel
theorem dX12_kept_113 : decode cX12_kept 113 = .ok (.iconst 3, 1) := by decide +kernel
theorem dX12_kept_114 : decode cX12_kept 114 = .ok (.if_icmp .ne 7, 3) := by decide +kernel
theorem dX12_kept_117 : decode cX12_kept 117 = .ok (.iconst 0, 1) := by decide +kernel
theorem dX12_kept_118 : decode cX12_kept 118 = .ok (.goto 14, 3) := by decide +kernel
theorem dX12_kept_121 : decode cX12_kept 121 = .ok (.iload_n 3, 1) := by decide +kernel
theorem dX12_kept_122 : decode cX12_kept 122 = .ok (.iconst 4, 1) := by decide +kernel
theorem dX12_kept_123 : decode cX12_kept 123 = .ok (.if_icmp .ne 8, 3) := by decide +kernel
theorem dX12_kept_126 : decode cX12_kept 126 = .ok (.bipush 7, 2) := by decide +kernel
theorem dX12_kept_128 : decode cX12_kept 128 = .ok (.goto 4, 3) := by decide +kernel
theorem dX12_kept_131 : decode cX12_kept 131 = .ok (.iconst 2, 1) := by decide +kernel
theorem dX12_kept_132 : decode cX12_kept 132 = .ok (.ireturn, 1) := by decide +kernel
theorem dX12_kept_133 : decode cX12_kept 133 = .ok (.aload_n 0, 1) := by decide +kernel
theorem dX12_kept_134 : decode cX12_kept 134 = .ok (.getfield 127, 3) := by decide +kernel
theorem dX12_kept_137 : decode cX12_kept 137 = .ok (.iload_n 1, 1) := by decide +kernel
theorem dX12_kept_138 : decode cX12_kept 138 = .ok (.iaload, 1) := by decide +kernel
theorem dX12_kept_139 : decode cX12_kept 139 = .ok (.ireturn, 1) := by decide +kernel
theorem dX12_kept_140 : decode cX12_kept 140 = .ok (.iload_n 2, 1) := by decide +kernel
theorem dX12_kept_141 : decode cX12_kept 141 = .ok (.iconst 4, 1) := by decide +kernel
theorem dX12_kept_142 : decode cX12_kept 142 = .ok (.isub, 1) := by decide +kernel
theorem dX12_kept_143 : decode cX12_kept 143 = .ok (.aload_n 0, 1) := by decide +kernel
theorem dX12_kept_144 : decode cX12_kept 144 = .ok (.getfield 127, 3) := by decide +kernel
theorem dX12_kept_147 : decode cX12_kept 147 = .ok (.iload_n 1, 1) := by decide +kernel
theorem dX12_kept_148 : decode cX12_kept 148 = .ok (.iaload, 1) := by decide +kernel
theorem dX12_kept_149 : decode cX12_kept 149 = .ok (.if_icmp .ge 19, 3) := by decide +kernel
theorem dX12_kept_152 : decode cX12_kept 152 = .ok (.aload_n 0, 1) := by decide +kernel
theorem dX12_kept_153 : decode cX12_kept 153 = .ok (.getfield 130, 3) := by decide +kernel
theorem dX12_kept_156 : decode cX12_kept 156 = .ok (.bipush 60, 2) := by decide +kernel
theorem dX12_kept_158 : decode cX12_kept 158 = .ok (.iload_n 1, 1) := by decide +kernel
theorem dX12_kept_159 : decode cX12_kept 159 = .ok (.imul, 1) := by decide +kernel
theorem dX12_kept_160 : decode cX12_kept 160 = .ok (.iload_n 2, 1) := by decide +kernel
theorem dX12_kept_161 : decode cX12_kept 161 = .ok (.iadd, 1) := by decide +kernel
theorem dX12_kept_162 : decode cX12_kept 162 = .ok (.iconst 4, 1) := by decide +kernel
theorem dX12_kept_163 : decode cX12_kept 163 = .ok (.isub, 1) := by decide +kernel
theorem dX12_kept_164 : decode cX12_kept 164 = .ok (.iaload, 1) := by decide +kernel
theorem dX12_kept_165 : decode cX12_kept 165 = .ok (.goto 9, 3) := by decide +kernel
theorem dX12_kept_168 : decode cX12_kept 168 = .ok (.aload_n 0, 1) := by decide +kernel
theorem dX12_kept_169 : decode cX12_kept 169 = .ok (.bipush (-13), 2) := by decide +kernel
theorem dX12_kept_171 : decode cX12_kept 171 = .ok (.invokevirtual 202, 3) := by decide +kernel
theorem dX12_kept_174 : decode cX12_kept 174 = .ok (.ireturn, 1) := by decide +kernel
theorem dX12_toss_0 : decode cX12_toss 0 = .ok (.aload_n 0, 1) := by decide +kernel
theorem dX12_toss_1 : decode cX12_toss 1 = .ok (.iconst 0, 1) := by decide +kernel
theorem dX12_toss_2 : decode cX12_toss 2 = .ok (.putfield 139, 3) := by decide +kernel
theorem dX12_toss_5 : decode cX12_toss 5 = .ok (.iload_n 1, 1) := by decide +kernel
theorem dX12_toss_6 : decode cX12_toss 6 = .ok (.invokestatic 270, 3) := by decide +kernel
theorem dX12_toss_9 : decode cX12_toss 9 = .ok (.ifCond .ne 5, 3) := by decide +kernel
theorem dX12_toss_12 : decode cX12_toss 12 = .ok (.iconst (-1), 1) := by decide +kernel
theorem dX12_toss_13 : decode cX12_toss 13 = .ok (.ireturn, 1) := by decide +kernel
theorem dX12_toss_14 : decode cX12_toss 14 = .ok (.aload_n 0, 1) := by decide +kernel
theorem dX12_toss_15 : decode cX12_toss 15 = .ok (.getfield 124, 3) := by decide +kernel
theorem dX12_toss_18 : decode cX12_toss 18 = .ok (.iload_n 1, 1) := by decide +kernel
theorem dX12_toss_19 : decode cX12_toss 19 = .ok (.iaload, 1) := by decide +kernel
theorem dX12_toss_20 : decode cX12_toss 20 = .ok (.ifCond .ne 10, 3) := by decide +kernel
theorem dX12_toss_23 : decode cX12_toss 23 = .ok (.aload_n 0, 1) := by decide +kernel
theorem dX12_toss_24 : decode cX12_toss 24 = .ok (.bipush (-11), 2) := by decide +kernel
theorem dX12_toss_26 : decode cX12_toss 26 = .ok (.invokevirtual 202, 3) := by decide +kernel
theorem dX12_toss_29 : decode cX12_toss 29 = .ok (.ireturn, 1) := by decide +kernel
theorem dX12_toss_30 : decode cX12_toss 30 = .ok (.aload_n 0, 1) := by decide +kernel
theorem dX12_toss_31 : decode cX12_toss 31 = .ok (.getfield 124, 3) := by decide +kernel
theorem dX12_toss_34 : decode cX12_toss 34 = .ok (.iload_n 1, 1) := by decide +kernel
theorem dX12_toss_35 : decode cX12_toss 35 = .ok (.iaload, 1) := by decide +kernel
theorem dX12_toss_36 : decode cX12_toss 36 = .ok (.iconst 4, 1) := by decide +kernel
theorem dX12_toss_37 : decode cX12_toss 37 = .ok (.if_icmp .eq 10, 3) := by decide +kernel
theorem dX12_toss_40 : decode cX12_toss 40 = .ok (.aload_n 0, 1) := by decide +kernel
theorem dX12_toss_41 : decode cX12_toss 41 = .ok (.bipush (-12), 2) := by decide +kernel
theorem dX12_toss_43 : decode cX12_toss 43 = .ok (.invokevirtual 202, 3) := by decide +kernel
theorem dX12_toss_46 : decode cX12_toss 46 = .ok (.ireturn, 1) := by decide +kernel
theorem dX12_toss_47 : decode cX12_toss 47 = .ok (.aload_n 0, 1) := by decide +kernel
theorem dX12_toss_48 : decode cX12_toss 48 = .ok (.iload_n 1, 1) := by decide +kernel
theorem dX12_toss_49 : decode cX12_toss 49 = .ok (.invokevirtual 276, 3) := by decide +kernel
theorem dX12_toss_52 : decode cX12_toss 52 = .ok (.ifCond .ne 12, 3) := by decide +kernel
theorem dX12_toss_55 : decode cX12_toss 55 = .ok (.aload_n 0, 1) := by decide +kernel
theorem dX12_toss_56 : decode cX12_toss 56 = .ok (.bipush (-15), 2) := by decide +kernel
theorem dX12_toss_58 : decode cX12_toss 58 = .ok (.invokevirtual 202, 3) := by decide +kernel
theorem dX12_toss_61 : decode cX12_toss 61 = .ok (.goto 11, 3) := by decide +kernel
theorem dX12_toss_64 : decode cX12_toss 64 = .ok (.iconst 1, 1) := by decide +kernel
theorem dX12_toss_65 : decode cX12_toss 65 = .ok (.aload_n 0, 1) := by decide +kernel
theorem dX12_toss_66 : decode cX12_toss 66 = .ok (.getfield 133, 3) := by decide +kernel
theorem dX12_toss_69 : decode cX12_toss 69 = .ok (.iload_n 1, 1) := by decide +kernel
theorem dX12_toss_70 : decode cX12_toss 70 = .ok (.iaload, 1) := by decide +kernel
theorem dX12_toss_71 : decode cX12_toss 71 = .ok (.iadd, 1) := by decide +kernel
theorem dX12_toss_72 : decode cX12_toss 72 = .ok (.ireturn, 1) := by decide +kernel
theorem dX12_count_0 : decode cX12_count 0 = .ok (.aload_n 0, 1) := by decide +kernel
theorem dX12_count_1 : decode cX12_count 1 = .ok (.iconst 0, 1) := by decide +kernel
theorem dX12_count_2 : decode cX12_count 2 = .ok (.putfield 139, 3) := by decide +kernel
theorem dX12_count_5 : decode cX12_count 5 = .ok (.iload_n 1, 1) := by decide +kernel
theorem dX12_count_6 : decode cX12_count 6 = .ok (.tableswitch 143 0 12 #[66, 71, 76, 81, 86, 95, 100, 113, 118, 123, 128, 133, 138], 66) := by decide +kernel
theorem dX12_count_72 : decode cX12_count 72 = .ok (.aload_n 0, 1) := by decide +kernel
theorem dX12_count_73 : decode cX12_count 73 = .ok (.getfield 7, 3) := by decide +kernel
theorem dX12_count_76 : decode cX12_count 76 = .ok (.ireturn, 1) := by decide +kernel
theorem dX12_count_77 : decode cX12_count 77 = .ok (.aload_n 0, 1) := by decide +kernel
theorem dX12_count_78 : decode cX12_count 78 = .ok (.getfield 13, 3) := by decide +kernel
theorem dX12_count_81 : decode cX12_count 81 = .ok (.ireturn, 1) := by decide +kernel
theorem dX12_count_82 : decode cX12_count 82 = .ok (.aload_n 0, 1) := by decide +kernel
theorem dX12_count_83 : decode cX12_count 83 = .ok (.getfield 16, 3) := by decide +kernel
theorem dX12_count_86 : decode cX12_count 86 = .ok (.ireturn, 1) := by decide +kernel
theorem dX12_count_87 : decode cX12_count 87 = .ok (.aload_n 0, 1) := by decide +kernel
theorem dX12_count_88 : decode cX12_count 88 = .ok (.invokevirtual 195, 3) := by decide +kernel
theorem dX12_count_91 : decode cX12_count 91 = .ok (.ireturn, 1) := by decide +kernel
theorem dX12_count_92 : decode cX12_count 92 = .ok (.aload_n 0, 1) := by decide +kernel
theorem dX12_count_93 : decode cX12_count 93 = .ok (.invokevirtual 208, 3) := by decide +kernel
theorem dX12_count_96 : decode cX12_count 96 = .ok (.aload_n 0, 1) := by decide +kernel
theorem dX12_count_97 : decode cX12_count 97 = .ok (.getfield 164, 3) := by decide +kernel
theorem dX12_count_100 : decode cX12_count 100 = .ok (.ireturn, 1) := by decide +kernel
theorem dX12_count_101 : decode cX12_count 101 = .ok (.aload_n 0, 1) := by decide +kernel
theorem dX12_count_102 : decode cX12_count 102 = .ok (.getfield 171, 3) := by decide +kernel
theorem dX12_count_105 : decode cX12_count 105 = .ok (.ireturn, 1) := by decide +kernel
theorem dX12_count_106 : decode cX12_count 106 = .ok (.aload_n 0, 1) := by decide +kernel
theorem dX12_count_107 : decode cX12_count 107 = .ok (.invokevirtual 208, 3) := by decide +kernel
theorem dX12_count_110 : decode cX12_count 110 = .ok (.aload_n 0, 1) := by decide +kernel
theorem dX12_count_111 : decode cX12_count 111 = .ok (.invokevirtual 211, 3) := by decide +kernel
theorem dX12_count_114 : decode cX12_count 114 = .ok (.aload_n 0, 1) := by decide +kernel
theorem dX12_count_115 : decode cX12_count 115 = .ok (.invokevirtual 223, 3) := by decide +kernel
theorem dX12_count_118 : decode cX12_count 118 = .ok (.ireturn, 1) := by decide +kernel
theorem dX12_count_119 : decode cX12_count 119 = .ok (.aload_n 0, 1) := by decide +kernel
theorem dX12_count_120 : decode cX12_count 120 = .ok (.getfield 186, 3) := by decide +kernel
theorem dX12_count_123 : decode cX12_count 123 = .ok (.ireturn, 1) := by decide +kernel
theorem dX12_count_124 : decode cX12_count 124 = .ok (.aload_n 0, 1) := by decide +kernel
theorem dX12_count_125 : decode cX12_count 125 = .ok (.getfield 189, 3) := by decide +kernel
theorem dX12_count_128 : decode cX12_count 128 = .ok (.ireturn, 1) := by decide +kernel
theorem dX12_count_129 : decode cX12_count 129 = .ok (.aload_n 0, 1) := by decide +kernel
theorem dX12_count_130 : decode cX12_count 130 = .ok (.getfield 180, 3) := by decide +kernel
theorem dX12_count_133 : decode cX12_count 133 = .ok (.ireturn, 1) := by decide +kernel
theorem dX12_count_134 : decode cX12_count 134 = .ok (.aload_n 0, 1) := by decide +kernel
theorem dX12_count_135 : decode cX12_count 135 = .ok (.getfield 150, 3) := by decide +kernel
theorem dX12_count_138 : decode cX12_count 138 = .ok (.ireturn, 1) := by decide +kernel
theorem dX12_count_139 : decode cX12_count 139 = .ok (.aload_n 0, 1) := by decide +kernel
theorem dX12_count_140 : decode cX12_count 140 = .ok (.getfield 183, 3) := by decide +kernel
theorem dX12_count_143 : decode cX12_count 143 = .ok (.ireturn, 1) := by decide +kernel
theorem dX12_count_144 : decode cX12_count 144 = .ok (.aload_n 0, 1) := by decide +kernel
theorem dX12_count_145 : decode cX12_count 145 = .ok (.getfield 192, 3) := by decide +kernel
theorem dX12_count_148 : decode cX12_count 148 = .ok (.ireturn, 1) := by decide +kernel
theorem dX12_count_149 : decode cX12_count 149 = .ok (.iconst (-1), 1) := by decide +kernel
theorem dX12_count_150 : decode cX12_count 150 = .ok (.ireturn, 1) := by decide +kernel
end
section
theorem dL_at_0 : decode cL_at 0 = .ok (.aload_n 3, 1) := by decide +kernel
theorem dL_at_1 : decode cL_at 1 = .ok (.iconst 0, 1) := by decide +kernel
theorem dL_at_2 : decode cL_at 2 = .ok (.aload_n 0, 1) := by decide +kernel
theorem dL_at_3 : decode cL_at 3 = .ok (.iload_n 1, 1) := by decide +kernel
theorem dL_at_4 : decode cL_at 4 = .ok (.iload_n 2, 1) := by decide +kernel
theorem dL_at_5 : decode cL_at 5 = .ok (.invokevirtual 7, 3) := by decide +kernel
theorem dL_at_8 : decode cL_at 8 = .ok (.i2l, 1) := by decide +kernel
theorem dL_at_9 : decode cL_at 9 = .ok (.lastore, 1) := by decide +kernel
theorem dL_at_10 : decode cL_at 10 = .ok (.goto 11, 3) := by decide +kernel
theorem dL_at_13 : decode cL_at 13 = .ok (.astore 4, 2) := by decide +kernel
theorem dL_at_15 : decode cL_at 15 = .ok (.iconst 1, 1) := by decide +kernel
theorem dL_at_16 : decode cL_at 16 = .ok (.ireturn, 1) := by decide +kernel
theorem dL_at_17 : decode cL_at 17 = .ok (.astore 4, 2) := by decide +kernel
theorem dL_at_19 : decode cL_at 19 = .ok (.iconst 2, 1) := by decide +kernel
theorem dL_at_20 : decode cL_at 20 = .ok (.ireturn, 1) := by decide +kernel
theorem dL_at_21 : decode cL_at 21 = .ok (.iconst 0, 1) := by decide +kernel
theorem dL_at_22 : decode cL_at 22 = .ok (.ireturn, 1) := by decide +kernel
theorem dL_law_0 : decode cL_law 0 = .ok (.new 8, 3) := by decide +kernel
theorem dL_law_3 : decode cL_law 3 = .ok (.dup, 1) := by decide +kernel
theorem dL_law_4 : decode cL_law 4 = .ok (.invokespecial 17, 3) := by decide +kernel
theorem dL_law_7 : decode cL_law 7 = .ok (.astore_n 1, 1) := by decide +kernel
theorem dL_law_8 : decode cL_law 8 = .ok (.new 18, 3) := by decide +kernel
theorem dL_law_11 : decode cL_law 11 = .ok (.dup, 1) := by decide +kernel
theorem dL_law_12 : decode cL_law 12 = .ok (.invokespecial 20, 3) := by decide +kernel
theorem dL_law_15 : decode cL_law 15 = .ok (.astore_n 2, 1) := by decide +kernel
theorem dL_law_16 : decode cL_law 16 = .ok (.iconst 1, 1) := by decide +kernel
theorem dL_law_17 : decode cL_law 17 = .ok (.newarray .long, 2) := by decide +kernel
theorem dL_law_19 : decode cL_law 19 = .ok (.astore_n 3, 1) := by decide +kernel
theorem dL_law_20 : decode cL_law 20 = .ok (.iconst 0, 1) := by decide +kernel
theorem dL_law_21 : decode cL_law 21 = .ok (.istore 4, 2) := by decide +kernel
theorem dL_law_23 : decode cL_law 23 = .ok (.iload 4, 2) := by decide +kernel
theorem dL_law_25 : decode cL_law 25 = .ok (.aload_n 0, 1) := by decide +kernel
theorem dL_law_26 : decode cL_law 26 = .ok (.arraylength, 1) := by decide +kernel
theorem dL_law_27 : decode cL_law 27 = .ok (.bipush 6, 2) := by decide +kernel
theorem dL_law_29 : decode cL_law 29 = .ok (.isub, 1) := by decide +kernel
theorem dL_law_30 : decode cL_law 30 = .ok (.if_icmp .gt 1405, 3) := by decide +kernel
theorem dL_law_33 : decode cL_law 33 = .ok (.aload_n 0, 1) := by decide +kernel
theorem dL_law_34 : decode cL_law 34 = .ok (.iload 4, 2) := by decide +kernel
theorem dL_law_36 : decode cL_law 36 = .ok (.iaload, 1) := by decide +kernel
theorem dL_law_37 : decode cL_law 37 = .ok (.bipush 63, 2) := by decide +kernel
theorem dL_law_39 : decode cL_law 39 = .ok (.iand, 1) := by decide +kernel
theorem dL_law_40 : decode cL_law 40 = .ok (.tableswitch 1389 0 37 #[168, 205, 242, 267, 292, 329, 354, 379, 392, 429, 454, 479, 492, 517, 554, 579, 604, 641, 666, 703, 728, 765, 814, 851, 888, 937, 950, 963, 976, 1025, 1050, 1075, 1124, 1192, 1265, 1302, 1339, 1364], 168) := by decide +kernel
theorem dL_law_208 : decode cL_law 208 = .ok (.aload_n 1, 1) := by decide +kernel
theorem dL_law_209 : decode cL_law 209 = .ok (.aload_n 0, 1) := by decide +kernel
theorem dL_law_210 : decode cL_law 210 = .ok (.iload 4, 2) := by decide +kernel
theorem dL_law_212 : decode cL_law 212 = .ok (.iconst 1, 1) := by decide +kernel
theorem dL_law_213 : decode cL_law 213 = .ok (.iadd, 1) := by decide +kernel
theorem dL_law_214 : decode cL_law 214 = .ok (.iaload, 1) := by decide +kernel
theorem dL_law_215 : decode cL_law 215 = .ok (.aload_n 0, 1) := by decide +kernel
theorem dL_law_216 : decode cL_law 216 = .ok (.iload 4, 2) := by decide +kernel
theorem dL_law_218 : decode cL_law 218 = .ok (.iconst 2, 1) := by decide +kernel
theorem dL_law_219 : decode cL_law 219 = .ok (.iadd, 1) := by decide +kernel
theorem dL_law_220 : decode cL_law 220 = .ok (.iaload, 1) := by decide +kernel
theorem dL_law_221 : decode cL_law 221 = .ok (.invokevirtual 21, 3) := by decide +kernel
theorem dL_law_224 : decode cL_law 224 = .ok (.aload_n 2, 1) := by decide +kernel
theorem dL_law_225 : decode cL_law 225 = .ok (.aload_n 0, 1) := by decide +kernel
theorem dL_law_226 : decode cL_law 226 = .ok (.iload 4, 2) := by decide +kernel
theorem dL_law_228 : decode cL_law 228 = .ok (.iconst 1, 1) := by decide +kernel
theorem dL_law_229 : decode cL_law 229 = .ok (.iadd, 1) := by decide +kernel
theorem dL_law_230 : decode cL_law 230 = .ok (.iaload, 1) := by decide +kernel
theorem dL_law_231 : decode cL_law 231 = .ok (.aload_n 0, 1) := by decide +kernel
theorem dL_law_232 : decode cL_law 232 = .ok (.iload 4, 2) := by decide +kernel
theorem dL_law_234 : decode cL_law 234 = .ok (.iconst 2, 1) := by decide +kernel
theorem dL_law_235 : decode cL_law 235 = .ok (.iadd, 1) := by decide +kernel
theorem dL_law_236 : decode cL_law 236 = .ok (.iaload, 1) := by decide +kernel
theorem dL_law_237 : decode cL_law 237 = .ok (.invokevirtual 24, 3) := by decide +kernel
theorem dL_law_240 : decode cL_law 240 = .ok (.if_icmp .eq 1189, 3) := by decide +kernel
theorem dL_law_243 : decode cL_law 243 = .ok (.iconst 0, 1) := by decide +kernel
theorem dL_law_244 : decode cL_law 244 = .ok (.ireturn, 1) := by decide +kernel
theorem dL_law_245 : decode cL_law 245 = .ok (.aload_n 1, 1) := by decide +kernel
theorem dL_law_246 : decode cL_law 246 = .ok (.aload_n 0, 1) := by decide +kernel
theorem dL_law_247 : decode cL_law 247 = .ok (.iload 4, 2) := by decide +kernel
theorem dL_law_249 : decode cL_law 249 = .ok (.iconst 1, 1) := by decide +kernel
theorem dL_law_250 : decode cL_law 250 = .ok (.iadd, 1) := by decide +kernel
theorem dL_law_251 : decode cL_law 251 = .ok (.iaload, 1) := by decide +kernel
theorem dL_law_252 : decode cL_law 252 = .ok (.aload_n 0, 1) := by decide +kernel
theorem dL_law_253 : decode cL_law 253 = .ok (.iload 4, 2) := by decide +kernel
theorem dL_law_255 : decode cL_law 255 = .ok (.iconst 2, 1) := by decide +kernel
theorem dL_law_256 : decode cL_law 256 = .ok (.iadd, 1) := by decide +kernel
theorem dL_law_257 : decode cL_law 257 = .ok (.iaload, 1) := by decide +kernel
theorem dL_law_258 : decode cL_law 258 = .ok (.invokevirtual 25, 3) := by decide +kernel
theorem dL_law_261 : decode cL_law 261 = .ok (.aload_n 2, 1) := by decide +kernel
theorem dL_law_262 : decode cL_law 262 = .ok (.aload_n 0, 1) := by decide +kernel
theorem dL_law_263 : decode cL_law 263 = .ok (.iload 4, 2) := by decide +kernel
theorem dL_law_265 : decode cL_law 265 = .ok (.iconst 1, 1) := by decide +kernel
theorem dL_law_266 : decode cL_law 266 = .ok (.iadd, 1) := by decide +kernel
theorem dL_law_267 : decode cL_law 267 = .ok (.iaload, 1) := by decide +kernel
theorem dL_law_268 : decode cL_law 268 = .ok (.aload_n 0, 1) := by decide +kernel
theorem dL_law_269 : decode cL_law 269 = .ok (.iload 4, 2) := by decide +kernel
theorem dL_law_271 : decode cL_law 271 = .ok (.iconst 2, 1) := by decide +kernel
theorem dL_law_272 : decode cL_law 272 = .ok (.iadd, 1) := by decide +kernel
theorem dL_law_273 : decode cL_law 273 = .ok (.iaload, 1) := by decide +kernel
theorem dL_law_274 : decode cL_law 274 = .ok (.invokevirtual 28, 3) := by decide +kernel
theorem dL_law_277 : decode cL_law 277 = .ok (.if_icmp .eq 1152, 3) := by decide +kernel
theorem dL_law_280 : decode cL_law 280 = .ok (.iconst 0, 1) := by decide +kernel
theorem dL_law_281 : decode cL_law 281 = .ok (.ireturn, 1) := by decide +kernel
theorem dL_law_282 : decode cL_law 282 = .ok (.aload_n 1, 1) := by decide +kernel
theorem dL_law_283 : decode cL_law 283 = .ok (.aload_n 0, 1) := by decide +kernel
theorem dL_law_284 : decode cL_law 284 = .ok (.iload 4, 2) := by decide +kernel
theorem dL_law_286 : decode cL_law 286 = .ok (.iconst 1, 1) := by decide +kernel
theorem dL_law_287 : decode cL_law 287 = .ok (.iadd, 1) := by decide +kernel
theorem dL_law_288 : decode cL_law 288 = .ok (.iaload, 1) := by decide +kernel
theorem dL_law_289 : decode cL_law 289 = .ok (.invokevirtual 29, 3) := by decide +kernel
theorem dL_law_292 : decode cL_law 292 = .ok (.aload_n 2, 1) := by decide +kernel
theorem dL_law_293 : decode cL_law 293 = .ok (.aload_n 0, 1) := by decide +kernel
theorem dL_law_294 : decode cL_law 294 = .ok (.iload 4, 2) := by decide +kernel
theorem dL_law_296 : decode cL_law 296 = .ok (.iconst 1, 1) := by decide +kernel
theorem dL_law_297 : decode cL_law 297 = .ok (.iadd, 1) := by decide +kernel
theorem dL_law_298 : decode cL_law 298 = .ok (.iaload, 1) := by decide +kernel
theorem dL_law_299 : decode cL_law 299 = .ok (.invokevirtual 33, 3) := by decide +kernel
theorem dL_law_302 : decode cL_law 302 = .ok (.if_icmp .eq 1127, 3) := by decide +kernel
theorem dL_law_305 : decode cL_law 305 = .ok (.iconst 0, 1) := by decide +kernel
theorem dL_law_306 : decode cL_law 306 = .ok (.ireturn, 1) := by decide +kernel
theorem dL_law_307 : decode cL_law 307 = .ok (.aload_n 1, 1) := by decide +kernel
theorem dL_law_308 : decode cL_law 308 = .ok (.aload_n 0, 1) := by decide +kernel
theorem dL_law_309 : decode cL_law 309 = .ok (.iload 4, 2) := by decide +kernel
theorem dL_law_311 : decode cL_law 311 = .ok (.iconst 1, 1) := by decide +kernel
theorem dL_law_312 : decode cL_law 312 = .ok (.iadd, 1) := by decide +kernel
theorem dL_law_313 : decode cL_law 313 = .ok (.iaload, 1) := by decide +kernel
theorem dL_law_314 : decode cL_law 314 = .ok (.invokevirtual 34, 3) := by decide +kernel
theorem dL_law_317 : decode cL_law 317 = .ok (.aload_n 2, 1) := by decide +kernel
theorem dL_law_318 : decode cL_law 318 = .ok (.aload_n 0, 1) := by decide +kernel
theorem dL_law_319 : decode cL_law 319 = .ok (.iload 4, 2) := by decide +kernel
theorem dL_law_321 : decode cL_law 321 = .ok (.iconst 1, 1) := by decide +kernel
theorem dL_law_322 : decode cL_law 322 = .ok (.iadd, 1) := by decide +kernel
theorem dL_law_323 : decode cL_law 323 = .ok (.iaload, 1) := by decide +kernel
theorem dL_law_324 : decode cL_law 324 = .ok (.invokevirtual 37, 3) := by decide +kernel
theorem dL_law_327 : decode cL_law 327 = .ok (.if_icmp .eq 1102, 3) := by decide +kernel
theorem dL_law_330 : decode cL_law 330 = .ok (.iconst 0, 1) := by decide +kernel
theorem dL_law_331 : decode cL_law 331 = .ok (.ireturn, 1) := by decide +kernel
theorem dL_law_332 : decode cL_law 332 = .ok (.aload_n 1, 1) := by decide +kernel
theorem dL_law_333 : decode cL_law 333 = .ok (.aload_n 0, 1) := by decide +kernel
theorem dL_law_334 : decode cL_law 334 = .ok (.iload 4, 2) := by decide +kernel
theorem dL_law_336 : decode cL_law 336 = .ok (.iconst 1, 1) := by decide +kernel
theorem dL_law_337 : decode cL_law 337 = .ok (.iadd, 1) := by decide +kernel
theorem dL_law_338 : decode cL_law 338 = .ok (.iaload, 1) := by decide +kernel
theorem dL_law_339 : decode cL_law 339 = .ok (.aload_n 0, 1) := by decide +kernel
theorem dL_law_340 : decode cL_law 340 = .ok (.iload 4, 2) := by decide +kernel
theorem dL_law_342 : decode cL_law 342 = .ok (.iconst 2, 1) := by decide +kernel
theorem dL_law_343 : decode cL_law 343 = .ok (.iadd, 1) := by decide +kernel
theorem dL_law_344 : decode cL_law 344 = .ok (.iaload, 1) := by decide +kernel
theorem dL_law_345 : decode cL_law 345 = .ok (.invokevirtual 38, 3) := by decide +kernel
theorem dL_law_348 : decode cL_law 348 = .ok (.aload_n 2, 1) := by decide +kernel
theorem dL_law_349 : decode cL_law 349 = .ok (.aload_n 0, 1) := by decide +kernel
theorem dL_law_350 : decode cL_law 350 = .ok (.iload 4, 2) := by decide +kernel
theorem dL_law_352 : decode cL_law 352 = .ok (.iconst 1, 1) := by decide +kernel
theorem dL_law_353 : decode cL_law 353 = .ok (.iadd, 1) := by decide +kernel
theorem dL_law_354 : decode cL_law 354 = .ok (.iaload, 1) := by decide +kernel
theorem dL_law_355 : decode cL_law 355 = .ok (.aload_n 0, 1) := by decide +kernel
theorem dL_law_356 : decode cL_law 356 = .ok (.iload 4, 2) := by decide +kernel
theorem dL_law_358 : decode cL_law 358 = .ok (.iconst 2, 1) := by decide +kernel
theorem dL_law_359 : decode cL_law 359 = .ok (.iadd, 1) := by decide +kernel
theorem dL_law_360 : decode cL_law 360 = .ok (.iaload, 1) := by decide +kernel
theorem dL_law_361 : decode cL_law 361 = .ok (.invokevirtual 41, 3) := by decide +kernel
theorem dL_law_364 : decode cL_law 364 = .ok (.if_icmp .eq 1065, 3) := by decide +kernel
theorem dL_law_367 : decode cL_law 367 = .ok (.iconst 0, 1) := by decide +kernel
theorem dL_law_368 : decode cL_law 368 = .ok (.ireturn, 1) := by decide +kernel
theorem dL_law_369 : decode cL_law 369 = .ok (.aload_n 1, 1) := by decide +kernel
theorem dL_law_370 : decode cL_law 370 = .ok (.aload_n 0, 1) := by decide +kernel
theorem dL_law_371 : decode cL_law 371 = .ok (.iload 4, 2) := by decide +kernel
theorem dL_law_373 : decode cL_law 373 = .ok (.iconst 1, 1) := by decide +kernel
theorem dL_law_374 : decode cL_law 374 = .ok (.iadd, 1) := by decide +kernel
theorem dL_law_375 : decode cL_law 375 = .ok (.iaload, 1) := by decide +kernel
theorem dL_law_376 : decode cL_law 376 = .ok (.invokevirtual 42, 3) := by decide +kernel
theorem dL_law_379 : decode cL_law 379 = .ok (.aload_n 2, 1) := by decide +kernel
theorem dL_law_380 : decode cL_law 380 = .ok (.aload_n 0, 1) := by decide +kernel
theorem dL_law_381 : decode cL_law 381 = .ok (.iload 4, 2) := by decide +kernel
theorem dL_law_383 : decode cL_law 383 = .ok (.iconst 1, 1) := by decide +kernel
theorem dL_law_384 : decode cL_law 384 = .ok (.iadd, 1) := by decide +kernel
theorem dL_law_385 : decode cL_law 385 = .ok (.iaload, 1) := by decide +kernel
theorem dL_law_386 : decode cL_law 386 = .ok (.invokevirtual 45, 3) := by decide +kernel
theorem dL_law_389 : decode cL_law 389 = .ok (.if_icmp .eq 1040, 3) := by decide +kernel
theorem dL_law_392 : decode cL_law 392 = .ok (.iconst 0, 1) := by decide +kernel
theorem dL_law_393 : decode cL_law 393 = .ok (.ireturn, 1) := by decide +kernel
theorem dL_law_394 : decode cL_law 394 = .ok (.aload_n 1, 1) := by decide +kernel
theorem dL_law_395 : decode cL_law 395 = .ok (.aload_n 0, 1) := by decide +kernel
theorem dL_law_396 : decode cL_law 396 = .ok (.iload 4, 2) := by decide +kernel
theorem dL_law_398 : decode cL_law 398 = .ok (.iconst 1, 1) := by decide +kernel
theorem dL_law_399 : decode cL_law 399 = .ok (.iadd, 1) := by decide +kernel
theorem dL_law_400 : decode cL_law 400 = .ok (.iaload, 1) := by decide +kernel
theorem dL_law_401 : decode cL_law 401 = .ok (.invokevirtual 46, 3) := by decide +kernel
theorem dL_law_404 : decode cL_law 404 = .ok (.aload_n 2, 1) := by decide +kernel
theorem dL_law_405 : decode cL_law 405 = .ok (.aload_n 0, 1) := by decide +kernel
theorem dL_law_406 : decode cL_law 406 = .ok (.iload 4, 2) := by decide +kernel
theorem dL_law_408 : decode cL_law 408 = .ok (.iconst 1, 1) := by decide +kernel
theorem dL_law_409 : decode cL_law 409 = .ok (.iadd, 1) := by decide +kernel
theorem dL_law_410 : decode cL_law 410 = .ok (.iaload, 1) := by decide +kernel
theorem dL_law_411 : decode cL_law 411 = .ok (.invokevirtual 49, 3) := by decide +kernel
theorem dL_law_414 : decode cL_law 414 = .ok (.if_icmp .eq 1015, 3) := by decide +kernel
theorem dL_law_417 : decode cL_law 417 = .ok (.iconst 0, 1) := by decide +kernel
theorem dL_law_418 : decode cL_law 418 = .ok (.ireturn, 1) := by decide +kernel
theorem dL_law_419 : decode cL_law 419 = .ok (.aload_n 1, 1) := by decide +kernel
theorem dL_law_420 : decode cL_law 420 = .ok (.invokevirtual 50, 3) := by decide +kernel
theorem dL_law_423 : decode cL_law 423 = .ok (.aload_n 2, 1) := by decide +kernel
theorem dL_law_424 : decode cL_law 424 = .ok (.invokevirtual 54, 3) := by decide +kernel
theorem dL_law_427 : decode cL_law 427 = .ok (.if_icmp .eq 1002, 3) := by decide +kernel
theorem dL_law_430 : decode cL_law 430 = .ok (.iconst 0, 1) := by decide +kernel
theorem dL_law_431 : decode cL_law 431 = .ok (.ireturn, 1) := by decide +kernel
theorem dL_law_432 : decode cL_law 432 = .ok (.aload_n 1, 1) := by decide +kernel
theorem dL_law_433 : decode cL_law 433 = .ok (.aload_n 0, 1) := by decide +kernel
theorem dL_law_434 : decode cL_law 434 = .ok (.iload 4, 2) := by decide +kernel
theorem dL_law_436 : decode cL_law 436 = .ok (.iconst 1, 1) := by decide +kernel
theorem dL_law_437 : decode cL_law 437 = .ok (.iadd, 1) := by decide +kernel
theorem dL_law_438 : decode cL_law 438 = .ok (.iaload, 1) := by decide +kernel
theorem dL_law_439 : decode cL_law 439 = .ok (.aload_n 0, 1) := by decide +kernel
theorem dL_law_440 : decode cL_law 440 = .ok (.iload 4, 2) := by decide +kernel
theorem dL_law_442 : decode cL_law 442 = .ok (.iconst 2, 1) := by decide +kernel
theorem dL_law_443 : decode cL_law 443 = .ok (.iadd, 1) := by decide +kernel
theorem dL_law_444 : decode cL_law 444 = .ok (.iaload, 1) := by decide +kernel
theorem dL_law_445 : decode cL_law 445 = .ok (.invokevirtual 55, 3) := by decide +kernel
theorem dL_law_448 : decode cL_law 448 = .ok (.aload_n 2, 1) := by decide +kernel
theorem dL_law_449 : decode cL_law 449 = .ok (.aload_n 0, 1) := by decide +kernel
theorem dL_law_450 : decode cL_law 450 = .ok (.iload 4, 2) := by decide +kernel
theorem dL_law_452 : decode cL_law 452 = .ok (.iconst 1, 1) := by decide +kernel
theorem dL_law_453 : decode cL_law 453 = .ok (.iadd, 1) := by decide +kernel
theorem dL_law_454 : decode cL_law 454 = .ok (.iaload, 1) := by decide +kernel
theorem dL_law_455 : decode cL_law 455 = .ok (.aload_n 0, 1) := by decide +kernel
theorem dL_law_456 : decode cL_law 456 = .ok (.iload 4, 2) := by decide +kernel
theorem dL_law_458 : decode cL_law 458 = .ok (.iconst 2, 1) := by decide +kernel
theorem dL_law_459 : decode cL_law 459 = .ok (.iadd, 1) := by decide +kernel
theorem dL_law_460 : decode cL_law 460 = .ok (.iaload, 1) := by decide +kernel
theorem dL_law_461 : decode cL_law 461 = .ok (.invokevirtual 58, 3) := by decide +kernel
theorem dL_law_464 : decode cL_law 464 = .ok (.if_icmp .eq 965, 3) := by decide +kernel
theorem dL_law_467 : decode cL_law 467 = .ok (.iconst 0, 1) := by decide +kernel
theorem dL_law_468 : decode cL_law 468 = .ok (.ireturn, 1) := by decide +kernel
theorem dL_law_469 : decode cL_law 469 = .ok (.aload_n 1, 1) := by decide +kernel
theorem dL_law_470 : decode cL_law 470 = .ok (.aload_n 0, 1) := by decide +kernel
theorem dL_law_471 : decode cL_law 471 = .ok (.iload 4, 2) := by decide +kernel
theorem dL_law_473 : decode cL_law 473 = .ok (.iconst 1, 1) := by decide +kernel
theorem dL_law_474 : decode cL_law 474 = .ok (.iadd, 1) := by decide +kernel
theorem dL_law_475 : decode cL_law 475 = .ok (.iaload, 1) := by decide +kernel
theorem dL_law_476 : decode cL_law 476 = .ok (.invokevirtual 59, 3) := by decide +kernel
theorem dL_law_479 : decode cL_law 479 = .ok (.aload_n 2, 1) := by decide +kernel
theorem dL_law_480 : decode cL_law 480 = .ok (.aload_n 0, 1) := by decide +kernel
theorem dL_law_481 : decode cL_law 481 = .ok (.iload 4, 2) := by decide +kernel
theorem dL_law_483 : decode cL_law 483 = .ok (.iconst 1, 1) := by decide +kernel
theorem dL_law_484 : decode cL_law 484 = .ok (.iadd, 1) := by decide +kernel
theorem dL_law_485 : decode cL_law 485 = .ok (.iaload, 1) := by decide +kernel
theorem dL_law_486 : decode cL_law 486 = .ok (.invokevirtual 62, 3) := by decide +kernel
theorem dL_law_489 : decode cL_law 489 = .ok (.if_icmp .eq 940, 3) := by decide +kernel
theorem dL_law_492 : decode cL_law 492 = .ok (.iconst 0, 1) := by decide +kernel
theorem dL_law_493 : decode cL_law 493 = .ok (.ireturn, 1) := by decide +kernel
theorem dL_law_494 : decode cL_law 494 = .ok (.aload_n 1, 1) := by decide +kernel
theorem dL_law_495 : decode cL_law 495 = .ok (.aload_n 0, 1) := by decide +kernel
theorem dL_law_496 : decode cL_law 496 = .ok (.iload 4, 2) := by decide +kernel
theorem dL_law_498 : decode cL_law 498 = .ok (.iconst 1, 1) := by decide +kernel
theorem dL_law_499 : decode cL_law 499 = .ok (.iadd, 1) := by decide +kernel
theorem dL_law_500 : decode cL_law 500 = .ok (.iaload, 1) := by decide +kernel
theorem dL_law_501 : decode cL_law 501 = .ok (.invokevirtual 63, 3) := by decide +kernel
theorem dL_law_504 : decode cL_law 504 = .ok (.aload_n 2, 1) := by decide +kernel
theorem dL_law_505 : decode cL_law 505 = .ok (.aload_n 0, 1) := by decide +kernel
theorem dL_law_506 : decode cL_law 506 = .ok (.iload 4, 2) := by decide +kernel
theorem dL_law_508 : decode cL_law 508 = .ok (.iconst 1, 1) := by decide +kernel
theorem dL_law_509 : decode cL_law 509 = .ok (.iadd, 1) := by decide +kernel
theorem dL_law_510 : decode cL_law 510 = .ok (.iaload, 1) := by decide +kernel
theorem dL_law_511 : decode cL_law 511 = .ok (.invokevirtual 66, 3) := by decide +kernel
theorem dL_law_514 : decode cL_law 514 = .ok (.if_icmp .eq 915, 3) := by decide +kernel
theorem dL_law_517 : decode cL_law 517 = .ok (.iconst 0, 1) := by decide +kernel
theorem dL_law_518 : decode cL_law 518 = .ok (.ireturn, 1) := by decide +kernel
theorem dL_law_519 : decode cL_law 519 = .ok (.aload_n 1, 1) := by decide +kernel
theorem dL_law_520 : decode cL_law 520 = .ok (.invokevirtual 67, 3) := by decide +kernel
theorem dL_law_523 : decode cL_law 523 = .ok (.aload_n 2, 1) := by decide +kernel
theorem dL_law_524 : decode cL_law 524 = .ok (.invokevirtual 70, 3) := by decide +kernel
theorem dL_law_527 : decode cL_law 527 = .ok (.if_icmp .eq 902, 3) := by decide +kernel
theorem dL_law_530 : decode cL_law 530 = .ok (.iconst 0, 1) := by decide +kernel
theorem dL_law_531 : decode cL_law 531 = .ok (.ireturn, 1) := by decide +kernel
theorem dL_law_532 : decode cL_law 532 = .ok (.aload_n 1, 1) := by decide +kernel
theorem dL_law_533 : decode cL_law 533 = .ok (.aload_n 0, 1) := by decide +kernel
theorem dL_law_534 : decode cL_law 534 = .ok (.iload 4, 2) := by decide +kernel
theorem dL_law_536 : decode cL_law 536 = .ok (.iconst 1, 1) := by decide +kernel
theorem dL_law_537 : decode cL_law 537 = .ok (.iadd, 1) := by decide +kernel
theorem dL_law_538 : decode cL_law 538 = .ok (.iaload, 1) := by decide +kernel
theorem dL_law_539 : decode cL_law 539 = .ok (.invokevirtual 71, 3) := by decide +kernel
theorem dL_law_542 : decode cL_law 542 = .ok (.aload_n 2, 1) := by decide +kernel
theorem dL_law_543 : decode cL_law 543 = .ok (.aload_n 0, 1) := by decide +kernel
theorem dL_law_544 : decode cL_law 544 = .ok (.iload 4, 2) := by decide +kernel
theorem dL_law_546 : decode cL_law 546 = .ok (.iconst 1, 1) := by decide +kernel
theorem dL_law_547 : decode cL_law 547 = .ok (.iadd, 1) := by decide +kernel
theorem dL_law_548 : decode cL_law 548 = .ok (.iaload, 1) := by decide +kernel
theorem dL_law_549 : decode cL_law 549 = .ok (.invokevirtual 74, 3) := by decide +kernel
theorem dL_law_552 : decode cL_law 552 = .ok (.if_icmp .eq 877, 3) := by decide +kernel
theorem dL_law_555 : decode cL_law 555 = .ok (.iconst 0, 1) := by decide +kernel
theorem dL_law_556 : decode cL_law 556 = .ok (.ireturn, 1) := by decide +kernel
theorem dL_law_557 : decode cL_law 557 = .ok (.aload_n 1, 1) := by decide +kernel
theorem dL_law_558 : decode cL_law 558 = .ok (.aload_n 0, 1) := by decide +kernel
theorem dL_law_559 : decode cL_law 559 = .ok (.iload 4, 2) := by decide +kernel
theorem dL_law_561 : decode cL_law 561 = .ok (.iconst 1, 1) := by decide +kernel
theorem dL_law_562 : decode cL_law 562 = .ok (.iadd, 1) := by decide +kernel
theorem dL_law_563 : decode cL_law 563 = .ok (.iaload, 1) := by decide +kernel
theorem dL_law_564 : decode cL_law 564 = .ok (.aload_n 0, 1) := by decide +kernel
theorem dL_law_565 : decode cL_law 565 = .ok (.iload 4, 2) := by decide +kernel
theorem dL_law_567 : decode cL_law 567 = .ok (.iconst 2, 1) := by decide +kernel
theorem dL_law_568 : decode cL_law 568 = .ok (.iadd, 1) := by decide +kernel
theorem dL_law_569 : decode cL_law 569 = .ok (.iaload, 1) := by decide +kernel
theorem dL_law_570 : decode cL_law 570 = .ok (.invokevirtual 75, 3) := by decide +kernel
theorem dL_law_573 : decode cL_law 573 = .ok (.aload_n 2, 1) := by decide +kernel
theorem dL_law_574 : decode cL_law 574 = .ok (.aload_n 0, 1) := by decide +kernel
theorem dL_law_575 : decode cL_law 575 = .ok (.iload 4, 2) := by decide +kernel
theorem dL_law_577 : decode cL_law 577 = .ok (.iconst 1, 1) := by decide +kernel
theorem dL_law_578 : decode cL_law 578 = .ok (.iadd, 1) := by decide +kernel
theorem dL_law_579 : decode cL_law 579 = .ok (.iaload, 1) := by decide +kernel
theorem dL_law_580 : decode cL_law 580 = .ok (.aload_n 0, 1) := by decide +kernel
theorem dL_law_581 : decode cL_law 581 = .ok (.iload 4, 2) := by decide +kernel
theorem dL_law_583 : decode cL_law 583 = .ok (.iconst 2, 1) := by decide +kernel
theorem dL_law_584 : decode cL_law 584 = .ok (.iadd, 1) := by decide +kernel
theorem dL_law_585 : decode cL_law 585 = .ok (.iaload, 1) := by decide +kernel
theorem dL_law_586 : decode cL_law 586 = .ok (.invokevirtual 78, 3) := by decide +kernel
theorem dL_law_589 : decode cL_law 589 = .ok (.if_icmp .eq 840, 3) := by decide +kernel
theorem dL_law_592 : decode cL_law 592 = .ok (.iconst 0, 1) := by decide +kernel
theorem dL_law_593 : decode cL_law 593 = .ok (.ireturn, 1) := by decide +kernel
theorem dL_law_594 : decode cL_law 594 = .ok (.aload_n 1, 1) := by decide +kernel
theorem dL_law_595 : decode cL_law 595 = .ok (.aload_n 0, 1) := by decide +kernel
theorem dL_law_596 : decode cL_law 596 = .ok (.iload 4, 2) := by decide +kernel
theorem dL_law_598 : decode cL_law 598 = .ok (.iconst 1, 1) := by decide +kernel
theorem dL_law_599 : decode cL_law 599 = .ok (.iadd, 1) := by decide +kernel
theorem dL_law_600 : decode cL_law 600 = .ok (.iaload, 1) := by decide +kernel
theorem dL_law_601 : decode cL_law 601 = .ok (.invokevirtual 79, 3) := by decide +kernel
theorem dL_law_604 : decode cL_law 604 = .ok (.aload_n 2, 1) := by decide +kernel
theorem dL_law_605 : decode cL_law 605 = .ok (.aload_n 0, 1) := by decide +kernel
theorem dL_law_606 : decode cL_law 606 = .ok (.iload 4, 2) := by decide +kernel
theorem dL_law_608 : decode cL_law 608 = .ok (.iconst 1, 1) := by decide +kernel
theorem dL_law_609 : decode cL_law 609 = .ok (.iadd, 1) := by decide +kernel
theorem dL_law_610 : decode cL_law 610 = .ok (.iaload, 1) := by decide +kernel
theorem dL_law_611 : decode cL_law 611 = .ok (.invokevirtual 82, 3) := by decide +kernel
theorem dL_law_614 : decode cL_law 614 = .ok (.if_icmp .eq 815, 3) := by decide +kernel
theorem dL_law_617 : decode cL_law 617 = .ok (.iconst 0, 1) := by decide +kernel
theorem dL_law_618 : decode cL_law 618 = .ok (.ireturn, 1) := by decide +kernel
theorem dL_law_619 : decode cL_law 619 = .ok (.aload_n 1, 1) := by decide +kernel
theorem dL_law_620 : decode cL_law 620 = .ok (.aload_n 0, 1) := by decide +kernel
theorem dL_law_621 : decode cL_law 621 = .ok (.iload 4, 2) := by decide +kernel
theorem dL_law_623 : decode cL_law 623 = .ok (.iconst 1, 1) := by decide +kernel
theorem dL_law_624 : decode cL_law 624 = .ok (.iadd, 1) := by decide +kernel
theorem dL_law_625 : decode cL_law 625 = .ok (.iaload, 1) := by decide +kernel
theorem dL_law_626 : decode cL_law 626 = .ok (.invokevirtual 83, 3) := by decide +kernel
theorem dL_law_629 : decode cL_law 629 = .ok (.aload_n 2, 1) := by decide +kernel
theorem dL_law_630 : decode cL_law 630 = .ok (.aload_n 0, 1) := by decide +kernel
theorem dL_law_631 : decode cL_law 631 = .ok (.iload 4, 2) := by decide +kernel
theorem dL_law_633 : decode cL_law 633 = .ok (.iconst 1, 1) := by decide +kernel
theorem dL_law_634 : decode cL_law 634 = .ok (.iadd, 1) := by decide +kernel
theorem dL_law_635 : decode cL_law 635 = .ok (.iaload, 1) := by decide +kernel
theorem dL_law_636 : decode cL_law 636 = .ok (.invokevirtual 86, 3) := by decide +kernel
theorem dL_law_639 : decode cL_law 639 = .ok (.if_icmp .eq 790, 3) := by decide +kernel
theorem dL_law_642 : decode cL_law 642 = .ok (.iconst 0, 1) := by decide +kernel
theorem dL_law_643 : decode cL_law 643 = .ok (.ireturn, 1) := by decide +kernel
theorem dL_law_644 : decode cL_law 644 = .ok (.aload_n 1, 1) := by decide +kernel
theorem dL_law_645 : decode cL_law 645 = .ok (.aload_n 0, 1) := by decide +kernel
theorem dL_law_646 : decode cL_law 646 = .ok (.iload 4, 2) := by decide +kernel
theorem dL_law_648 : decode cL_law 648 = .ok (.iconst 1, 1) := by decide +kernel
theorem dL_law_649 : decode cL_law 649 = .ok (.iadd, 1) := by decide +kernel
theorem dL_law_650 : decode cL_law 650 = .ok (.iaload, 1) := by decide +kernel
theorem dL_law_651 : decode cL_law 651 = .ok (.aload_n 0, 1) := by decide +kernel
theorem dL_law_652 : decode cL_law 652 = .ok (.iload 4, 2) := by decide +kernel
theorem dL_law_654 : decode cL_law 654 = .ok (.iconst 2, 1) := by decide +kernel
theorem dL_law_655 : decode cL_law 655 = .ok (.iadd, 1) := by decide +kernel
theorem dL_law_656 : decode cL_law 656 = .ok (.iaload, 1) := by decide +kernel
theorem dL_law_657 : decode cL_law 657 = .ok (.invokevirtual 87, 3) := by decide +kernel
theorem dL_law_660 : decode cL_law 660 = .ok (.aload_n 2, 1) := by decide +kernel
theorem dL_law_661 : decode cL_law 661 = .ok (.aload_n 0, 1) := by decide +kernel
theorem dL_law_662 : decode cL_law 662 = .ok (.iload 4, 2) := by decide +kernel
theorem dL_law_664 : decode cL_law 664 = .ok (.iconst 1, 1) := by decide +kernel
theorem dL_law_665 : decode cL_law 665 = .ok (.iadd, 1) := by decide +kernel
theorem dL_law_666 : decode cL_law 666 = .ok (.iaload, 1) := by decide +kernel
theorem dL_law_667 : decode cL_law 667 = .ok (.aload_n 0, 1) := by decide +kernel
theorem dL_law_668 : decode cL_law 668 = .ok (.iload 4, 2) := by decide +kernel
theorem dL_law_670 : decode cL_law 670 = .ok (.iconst 2, 1) := by decide +kernel
theorem dL_law_671 : decode cL_law 671 = .ok (.iadd, 1) := by decide +kernel
theorem dL_law_672 : decode cL_law 672 = .ok (.iaload, 1) := by decide +kernel
theorem dL_law_673 : decode cL_law 673 = .ok (.invokevirtual 90, 3) := by decide +kernel
theorem dL_law_676 : decode cL_law 676 = .ok (.if_icmp .eq 753, 3) := by decide +kernel
theorem dL_law_679 : decode cL_law 679 = .ok (.iconst 0, 1) := by decide +kernel
theorem dL_law_680 : decode cL_law 680 = .ok (.ireturn, 1) := by decide +kernel
theorem dL_law_681 : decode cL_law 681 = .ok (.aload_n 1, 1) := by decide +kernel
theorem dL_law_682 : decode cL_law 682 = .ok (.aload_n 0, 1) := by decide +kernel
theorem dL_law_683 : decode cL_law 683 = .ok (.iload 4, 2) := by decide +kernel
theorem dL_law_685 : decode cL_law 685 = .ok (.iconst 1, 1) := by decide +kernel
theorem dL_law_686 : decode cL_law 686 = .ok (.iadd, 1) := by decide +kernel
theorem dL_law_687 : decode cL_law 687 = .ok (.iaload, 1) := by decide +kernel
theorem dL_law_688 : decode cL_law 688 = .ok (.invokevirtual 91, 3) := by decide +kernel
theorem dL_law_691 : decode cL_law 691 = .ok (.aload_n 2, 1) := by decide +kernel
theorem dL_law_692 : decode cL_law 692 = .ok (.aload_n 0, 1) := by decide +kernel
theorem dL_law_693 : decode cL_law 693 = .ok (.iload 4, 2) := by decide +kernel
theorem dL_law_695 : decode cL_law 695 = .ok (.iconst 1, 1) := by decide +kernel
theorem dL_law_696 : decode cL_law 696 = .ok (.iadd, 1) := by decide +kernel
theorem dL_law_697 : decode cL_law 697 = .ok (.iaload, 1) := by decide +kernel
theorem dL_law_698 : decode cL_law 698 = .ok (.invokevirtual 94, 3) := by decide +kernel
theorem dL_law_701 : decode cL_law 701 = .ok (.if_icmp .eq 728, 3) := by decide +kernel
theorem dL_law_704 : decode cL_law 704 = .ok (.iconst 0, 1) := by decide +kernel
theorem dL_law_705 : decode cL_law 705 = .ok (.ireturn, 1) := by decide +kernel
theorem dL_law_706 : decode cL_law 706 = .ok (.aload_n 1, 1) := by decide +kernel
theorem dL_law_707 : decode cL_law 707 = .ok (.aload_n 0, 1) := by decide +kernel
theorem dL_law_708 : decode cL_law 708 = .ok (.iload 4, 2) := by decide +kernel
theorem dL_law_710 : decode cL_law 710 = .ok (.iconst 1, 1) := by decide +kernel
theorem dL_law_711 : decode cL_law 711 = .ok (.iadd, 1) := by decide +kernel
theorem dL_law_712 : decode cL_law 712 = .ok (.iaload, 1) := by decide +kernel
theorem dL_law_713 : decode cL_law 713 = .ok (.aload_n 0, 1) := by decide +kernel
theorem dL_law_714 : decode cL_law 714 = .ok (.iload 4, 2) := by decide +kernel
theorem dL_law_716 : decode cL_law 716 = .ok (.iconst 2, 1) := by decide +kernel
theorem dL_law_717 : decode cL_law 717 = .ok (.iadd, 1) := by decide +kernel
theorem dL_law_718 : decode cL_law 718 = .ok (.iaload, 1) := by decide +kernel
theorem dL_law_719 : decode cL_law 719 = .ok (.invokevirtual 95, 3) := by decide +kernel
theorem dL_law_722 : decode cL_law 722 = .ok (.aload_n 2, 1) := by decide +kernel
theorem dL_law_723 : decode cL_law 723 = .ok (.aload_n 0, 1) := by decide +kernel
theorem dL_law_724 : decode cL_law 724 = .ok (.iload 4, 2) := by decide +kernel
theorem dL_law_726 : decode cL_law 726 = .ok (.iconst 1, 1) := by decide +kernel
theorem dL_law_727 : decode cL_law 727 = .ok (.iadd, 1) := by decide +kernel
theorem dL_law_728 : decode cL_law 728 = .ok (.iaload, 1) := by decide +kernel
theorem dL_law_729 : decode cL_law 729 = .ok (.aload_n 0, 1) := by decide +kernel
theorem dL_law_730 : decode cL_law 730 = .ok (.iload 4, 2) := by decide +kernel
theorem dL_law_732 : decode cL_law 732 = .ok (.iconst 2, 1) := by decide +kernel
theorem dL_law_733 : decode cL_law 733 = .ok (.iadd, 1) := by decide +kernel
theorem dL_law_734 : decode cL_law 734 = .ok (.iaload, 1) := by decide +kernel
theorem dL_law_735 : decode cL_law 735 = .ok (.invokevirtual 98, 3) := by decide +kernel
theorem dL_law_738 : decode cL_law 738 = .ok (.if_icmp .eq 691, 3) := by decide +kernel
theorem dL_law_741 : decode cL_law 741 = .ok (.iconst 0, 1) := by decide +kernel
theorem dL_law_742 : decode cL_law 742 = .ok (.ireturn, 1) := by decide +kernel
theorem dL_law_743 : decode cL_law 743 = .ok (.aload_n 1, 1) := by decide +kernel
theorem dL_law_744 : decode cL_law 744 = .ok (.aload_n 0, 1) := by decide +kernel
theorem dL_law_745 : decode cL_law 745 = .ok (.iload 4, 2) := by decide +kernel
theorem dL_law_747 : decode cL_law 747 = .ok (.iconst 1, 1) := by decide +kernel
theorem dL_law_748 : decode cL_law 748 = .ok (.iadd, 1) := by decide +kernel
theorem dL_law_749 : decode cL_law 749 = .ok (.iaload, 1) := by decide +kernel
theorem dL_law_750 : decode cL_law 750 = .ok (.invokevirtual 99, 3) := by decide +kernel
theorem dL_law_753 : decode cL_law 753 = .ok (.aload_n 2, 1) := by decide +kernel
theorem dL_law_754 : decode cL_law 754 = .ok (.aload_n 0, 1) := by decide +kernel
theorem dL_law_755 : decode cL_law 755 = .ok (.iload 4, 2) := by decide +kernel
theorem dL_law_757 : decode cL_law 757 = .ok (.iconst 1, 1) := by decide +kernel
theorem dL_law_758 : decode cL_law 758 = .ok (.iadd, 1) := by decide +kernel
theorem dL_law_759 : decode cL_law 759 = .ok (.iaload, 1) := by decide +kernel
theorem dL_law_760 : decode cL_law 760 = .ok (.invokevirtual 102, 3) := by decide +kernel
theorem dL_law_763 : decode cL_law 763 = .ok (.if_icmp .eq 666, 3) := by decide +kernel
theorem dL_law_766 : decode cL_law 766 = .ok (.iconst 0, 1) := by decide +kernel
theorem dL_law_767 : decode cL_law 767 = .ok (.ireturn, 1) := by decide +kernel
theorem dL_law_768 : decode cL_law 768 = .ok (.aload_n 1, 1) := by decide +kernel
theorem dL_law_769 : decode cL_law 769 = .ok (.aload_n 0, 1) := by decide +kernel
theorem dL_law_770 : decode cL_law 770 = .ok (.iload 4, 2) := by decide +kernel
theorem dL_law_772 : decode cL_law 772 = .ok (.iconst 1, 1) := by decide +kernel
theorem dL_law_773 : decode cL_law 773 = .ok (.iadd, 1) := by decide +kernel
theorem dL_law_774 : decode cL_law 774 = .ok (.iaload, 1) := by decide +kernel
theorem dL_law_775 : decode cL_law 775 = .ok (.aload_n 0, 1) := by decide +kernel
theorem dL_law_776 : decode cL_law 776 = .ok (.iload 4, 2) := by decide +kernel
theorem dL_law_778 : decode cL_law 778 = .ok (.iconst 2, 1) := by decide +kernel
theorem dL_law_779 : decode cL_law 779 = .ok (.iadd, 1) := by decide +kernel
theorem dL_law_780 : decode cL_law 780 = .ok (.iaload, 1) := by decide +kernel
theorem dL_law_781 : decode cL_law 781 = .ok (.invokevirtual 103, 3) := by decide +kernel
theorem dL_law_784 : decode cL_law 784 = .ok (.aload_n 2, 1) := by decide +kernel
theorem dL_law_785 : decode cL_law 785 = .ok (.aload_n 0, 1) := by decide +kernel
theorem dL_law_786 : decode cL_law 786 = .ok (.iload 4, 2) := by decide +kernel
theorem dL_law_788 : decode cL_law 788 = .ok (.iconst 1, 1) := by decide +kernel
theorem dL_law_789 : decode cL_law 789 = .ok (.iadd, 1) := by decide +kernel
theorem dL_law_790 : decode cL_law 790 = .ok (.iaload, 1) := by decide +kernel
theorem dL_law_791 : decode cL_law 791 = .ok (.aload_n 0, 1) := by decide +kernel
theorem dL_law_792 : decode cL_law 792 = .ok (.iload 4, 2) := by decide +kernel
theorem dL_law_794 : decode cL_law 794 = .ok (.iconst 2, 1) := by decide +kernel
theorem dL_law_795 : decode cL_law 795 = .ok (.iadd, 1) := by decide +kernel
theorem dL_law_796 : decode cL_law 796 = .ok (.iaload, 1) := by decide +kernel
theorem dL_law_797 : decode cL_law 797 = .ok (.invokevirtual 106, 3) := by decide +kernel
theorem dL_law_800 : decode cL_law 800 = .ok (.if_icmp .eq 629, 3) := by decide +kernel
theorem dL_law_803 : decode cL_law 803 = .ok (.iconst 0, 1) := by decide +kernel
theorem dL_law_804 : decode cL_law 804 = .ok (.ireturn, 1) := by decide +kernel
theorem dL_law_805 : decode cL_law 805 = .ok (.aload_n 1, 1) := by decide +kernel
theorem dL_law_806 : decode cL_law 806 = .ok (.aload_n 0, 1) := by decide +kernel
theorem dL_law_807 : decode cL_law 807 = .ok (.iload 4, 2) := by decide +kernel
theorem dL_law_809 : decode cL_law 809 = .ok (.iconst 1, 1) := by decide +kernel
theorem dL_law_810 : decode cL_law 810 = .ok (.iadd, 1) := by decide +kernel
theorem dL_law_811 : decode cL_law 811 = .ok (.iaload, 1) := by decide +kernel
theorem dL_law_812 : decode cL_law 812 = .ok (.aload_n 0, 1) := by decide +kernel
theorem dL_law_813 : decode cL_law 813 = .ok (.iload 4, 2) := by decide +kernel
theorem dL_law_815 : decode cL_law 815 = .ok (.iconst 2, 1) := by decide +kernel
theorem dL_law_816 : decode cL_law 816 = .ok (.iadd, 1) := by decide +kernel
theorem dL_law_817 : decode cL_law 817 = .ok (.iaload, 1) := by decide +kernel
theorem dL_law_818 : decode cL_law 818 = .ok (.aload_n 0, 1) := by decide +kernel
theorem dL_law_819 : decode cL_law 819 = .ok (.iload 4, 2) := by decide +kernel
theorem dL_law_821 : decode cL_law 821 = .ok (.iconst 3, 1) := by decide +kernel
theorem dL_law_822 : decode cL_law 822 = .ok (.iadd, 1) := by decide +kernel
theorem dL_law_823 : decode cL_law 823 = .ok (.iaload, 1) := by decide +kernel
theorem dL_law_824 : decode cL_law 824 = .ok (.invokevirtual 107, 3) := by decide +kernel
theorem dL_law_827 : decode cL_law 827 = .ok (.aload_n 2, 1) := by decide +kernel
theorem dL_law_828 : decode cL_law 828 = .ok (.aload_n 0, 1) := by decide +kernel
theorem dL_law_829 : decode cL_law 829 = .ok (.iload 4, 2) := by decide +kernel
theorem dL_law_831 : decode cL_law 831 = .ok (.iconst 1, 1) := by decide +kernel
theorem dL_law_832 : decode cL_law 832 = .ok (.iadd, 1) := by decide +kernel
theorem dL_law_833 : decode cL_law 833 = .ok (.iaload, 1) := by decide +kernel
theorem dL_law_834 : decode cL_law 834 = .ok (.aload_n 0, 1) := by decide +kernel
theorem dL_law_835 : decode cL_law 835 = .ok (.iload 4, 2) := by decide +kernel
theorem dL_law_837 : decode cL_law 837 = .ok (.iconst 2, 1) := by decide +kernel
theorem dL_law_838 : decode cL_law 838 = .ok (.iadd, 1) := by decide +kernel
theorem dL_law_839 : decode cL_law 839 = .ok (.iaload, 1) := by decide +kernel
theorem dL_law_840 : decode cL_law 840 = .ok (.aload_n 0, 1) := by decide +kernel
theorem dL_law_841 : decode cL_law 841 = .ok (.iload 4, 2) := by decide +kernel
theorem dL_law_843 : decode cL_law 843 = .ok (.iconst 3, 1) := by decide +kernel
theorem dL_law_844 : decode cL_law 844 = .ok (.iadd, 1) := by decide +kernel
theorem dL_law_845 : decode cL_law 845 = .ok (.iaload, 1) := by decide +kernel
theorem dL_law_846 : decode cL_law 846 = .ok (.invokevirtual 111, 3) := by decide +kernel
theorem dL_law_849 : decode cL_law 849 = .ok (.if_icmp .eq 580, 3) := by decide +kernel
theorem dL_law_852 : decode cL_law 852 = .ok (.iconst 0, 1) := by decide +kernel
theorem dL_law_853 : decode cL_law 853 = .ok (.ireturn, 1) := by decide +kernel
theorem dL_law_854 : decode cL_law 854 = .ok (.aload_n 1, 1) := by decide +kernel
theorem dL_law_855 : decode cL_law 855 = .ok (.aload_n 0, 1) := by decide +kernel
theorem dL_law_856 : decode cL_law 856 = .ok (.iload 4, 2) := by decide +kernel
theorem dL_law_858 : decode cL_law 858 = .ok (.iconst 1, 1) := by decide +kernel
theorem dL_law_859 : decode cL_law 859 = .ok (.iadd, 1) := by decide +kernel
theorem dL_law_860 : decode cL_law 860 = .ok (.iaload, 1) := by decide +kernel
theorem dL_law_861 : decode cL_law 861 = .ok (.aload_n 0, 1) := by decide +kernel
theorem dL_law_862 : decode cL_law 862 = .ok (.iload 4, 2) := by decide +kernel
theorem dL_law_864 : decode cL_law 864 = .ok (.iconst 2, 1) := by decide +kernel
theorem dL_law_865 : decode cL_law 865 = .ok (.iadd, 1) := by decide +kernel
theorem dL_law_866 : decode cL_law 866 = .ok (.iaload, 1) := by decide +kernel
theorem dL_law_867 : decode cL_law 867 = .ok (.invokevirtual 112, 3) := by decide +kernel
theorem dL_law_870 : decode cL_law 870 = .ok (.aload_n 2, 1) := by decide +kernel
theorem dL_law_871 : decode cL_law 871 = .ok (.aload_n 0, 1) := by decide +kernel
theorem dL_law_872 : decode cL_law 872 = .ok (.iload 4, 2) := by decide +kernel
theorem dL_law_874 : decode cL_law 874 = .ok (.iconst 1, 1) := by decide +kernel
theorem dL_law_875 : decode cL_law 875 = .ok (.iadd, 1) := by decide +kernel
theorem dL_law_876 : decode cL_law 876 = .ok (.iaload, 1) := by decide +kernel
theorem dL_law_877 : decode cL_law 877 = .ok (.aload_n 0, 1) := by decide +kernel
theorem dL_law_878 : decode cL_law 878 = .ok (.iload 4, 2) := by decide +kernel
theorem dL_law_880 : decode cL_law 880 = .ok (.iconst 2, 1) := by decide +kernel
theorem dL_law_881 : decode cL_law 881 = .ok (.iadd, 1) := by decide +kernel
theorem dL_law_882 : decode cL_law 882 = .ok (.iaload, 1) := by decide +kernel
theorem dL_law_883 : decode cL_law 883 = .ok (.invokevirtual 115, 3) := by decide +kernel
theorem dL_law_886 : decode cL_law 886 = .ok (.if_icmp .eq 543, 3) := by decide +kernel
theorem dL_law_889 : decode cL_law 889 = .ok (.iconst 0, 1) := by decide +kernel
theorem dL_law_890 : decode cL_law 890 = .ok (.ireturn, 1) := by decide +kernel
theorem dL_law_891 : decode cL_law 891 = .ok (.aload_n 1, 1) := by decide +kernel
theorem dL_law_892 : decode cL_law 892 = .ok (.aload_n 0, 1) := by decide +kernel
theorem dL_law_893 : decode cL_law 893 = .ok (.iload 4, 2) := by decide +kernel
theorem dL_law_895 : decode cL_law 895 = .ok (.iconst 1, 1) := by decide +kernel
theorem dL_law_896 : decode cL_law 896 = .ok (.iadd, 1) := by decide +kernel
theorem dL_law_897 : decode cL_law 897 = .ok (.iaload, 1) := by decide +kernel
theorem dL_law_898 : decode cL_law 898 = .ok (.aload_n 0, 1) := by decide +kernel
theorem dL_law_899 : decode cL_law 899 = .ok (.iload 4, 2) := by decide +kernel
theorem dL_law_901 : decode cL_law 901 = .ok (.iconst 2, 1) := by decide +kernel
theorem dL_law_902 : decode cL_law 902 = .ok (.iadd, 1) := by decide +kernel
theorem dL_law_903 : decode cL_law 903 = .ok (.iaload, 1) := by decide +kernel
theorem dL_law_904 : decode cL_law 904 = .ok (.invokevirtual 116, 3) := by decide +kernel
theorem dL_law_907 : decode cL_law 907 = .ok (.aload_n 2, 1) := by decide +kernel
theorem dL_law_908 : decode cL_law 908 = .ok (.aload_n 0, 1) := by decide +kernel
theorem dL_law_909 : decode cL_law 909 = .ok (.iload 4, 2) := by decide +kernel
theorem dL_law_911 : decode cL_law 911 = .ok (.iconst 1, 1) := by decide +kernel
theorem dL_law_912 : decode cL_law 912 = .ok (.iadd, 1) := by decide +kernel
theorem dL_law_913 : decode cL_law 913 = .ok (.iaload, 1) := by decide +kernel
theorem dL_law_914 : decode cL_law 914 = .ok (.aload_n 0, 1) := by decide +kernel
theorem dL_law_915 : decode cL_law 915 = .ok (.iload 4, 2) := by decide +kernel
theorem dL_law_917 : decode cL_law 917 = .ok (.iconst 2, 1) := by decide +kernel
theorem dL_law_918 : decode cL_law 918 = .ok (.iadd, 1) := by decide +kernel
theorem dL_law_919 : decode cL_law 919 = .ok (.iaload, 1) := by decide +kernel
theorem dL_law_920 : decode cL_law 920 = .ok (.invokevirtual 119, 3) := by decide +kernel
theorem dL_law_923 : decode cL_law 923 = .ok (.if_icmp .eq 506, 3) := by decide +kernel
theorem dL_law_926 : decode cL_law 926 = .ok (.iconst 0, 1) := by decide +kernel
theorem dL_law_927 : decode cL_law 927 = .ok (.ireturn, 1) := by decide +kernel
theorem dL_law_928 : decode cL_law 928 = .ok (.aload_n 1, 1) := by decide +kernel
theorem dL_law_929 : decode cL_law 929 = .ok (.aload_n 0, 1) := by decide +kernel
theorem dL_law_930 : decode cL_law 930 = .ok (.iload 4, 2) := by decide +kernel
theorem dL_law_932 : decode cL_law 932 = .ok (.iconst 1, 1) := by decide +kernel
theorem dL_law_933 : decode cL_law 933 = .ok (.iadd, 1) := by decide +kernel
theorem dL_law_934 : decode cL_law 934 = .ok (.iaload, 1) := by decide +kernel
theorem dL_law_935 : decode cL_law 935 = .ok (.aload_n 0, 1) := by decide +kernel
theorem dL_law_936 : decode cL_law 936 = .ok (.iload 4, 2) := by decide +kernel
theorem dL_law_938 : decode cL_law 938 = .ok (.iconst 2, 1) := by decide +kernel
theorem dL_law_939 : decode cL_law 939 = .ok (.iadd, 1) := by decide +kernel
theorem dL_law_940 : decode cL_law 940 = .ok (.iaload, 1) := by decide +kernel
theorem dL_law_941 : decode cL_law 941 = .ok (.aload_n 0, 1) := by decide +kernel
theorem dL_law_942 : decode cL_law 942 = .ok (.iload 4, 2) := by decide +kernel
theorem dL_law_944 : decode cL_law 944 = .ok (.iconst 3, 1) := by decide +kernel
theorem dL_law_945 : decode cL_law 945 = .ok (.iadd, 1) := by decide +kernel
theorem dL_law_946 : decode cL_law 946 = .ok (.iaload, 1) := by decide +kernel
theorem dL_law_947 : decode cL_law 947 = .ok (.invokevirtual 120, 3) := by decide +kernel
theorem dL_law_950 : decode cL_law 950 = .ok (.aload_n 2, 1) := by decide +kernel
theorem dL_law_951 : decode cL_law 951 = .ok (.aload_n 0, 1) := by decide +kernel
theorem dL_law_952 : decode cL_law 952 = .ok (.iload 4, 2) := by decide +kernel
theorem dL_law_954 : decode cL_law 954 = .ok (.iconst 1, 1) := by decide +kernel
theorem dL_law_955 : decode cL_law 955 = .ok (.iadd, 1) := by decide +kernel
theorem dL_law_956 : decode cL_law 956 = .ok (.iaload, 1) := by decide +kernel
theorem dL_law_957 : decode cL_law 957 = .ok (.aload_n 0, 1) := by decide +kernel
theorem dL_law_958 : decode cL_law 958 = .ok (.iload 4, 2) := by decide +kernel
theorem dL_law_960 : decode cL_law 960 = .ok (.iconst 2, 1) := by decide +kernel
theorem dL_law_961 : decode cL_law 961 = .ok (.iadd, 1) := by decide +kernel
theorem dL_law_962 : decode cL_law 962 = .ok (.iaload, 1) := by decide +kernel
theorem dL_law_963 : decode cL_law 963 = .ok (.aload_n 0, 1) := by decide +kernel
theorem dL_law_964 : decode cL_law 964 = .ok (.iload 4, 2) := by decide +kernel
theorem dL_law_966 : decode cL_law 966 = .ok (.iconst 3, 1) := by decide +kernel
theorem dL_law_967 : decode cL_law 967 = .ok (.iadd, 1) := by decide +kernel
theorem dL_law_968 : decode cL_law 968 = .ok (.iaload, 1) := by decide +kernel
theorem dL_law_969 : decode cL_law 969 = .ok (.invokevirtual 123, 3) := by decide +kernel
theorem dL_law_972 : decode cL_law 972 = .ok (.if_icmp .eq 457, 3) := by decide +kernel
theorem dL_law_975 : decode cL_law 975 = .ok (.iconst 0, 1) := by decide +kernel
theorem dL_law_976 : decode cL_law 976 = .ok (.ireturn, 1) := by decide +kernel
theorem dL_law_977 : decode cL_law 977 = .ok (.aload_n 1, 1) := by decide +kernel
theorem dL_law_978 : decode cL_law 978 = .ok (.invokevirtual 124, 3) := by decide +kernel
theorem dL_law_981 : decode cL_law 981 = .ok (.aload_n 2, 1) := by decide +kernel
theorem dL_law_982 : decode cL_law 982 = .ok (.invokevirtual 127, 3) := by decide +kernel
theorem dL_law_985 : decode cL_law 985 = .ok (.if_icmp .eq 444, 3) := by decide +kernel
theorem dL_law_988 : decode cL_law 988 = .ok (.iconst 0, 1) := by decide +kernel
theorem dL_law_989 : decode cL_law 989 = .ok (.ireturn, 1) := by decide +kernel
theorem dL_law_990 : decode cL_law 990 = .ok (.aload_n 1, 1) := by decide +kernel
theorem dL_law_991 : decode cL_law 991 = .ok (.invokevirtual 128, 3) := by decide +kernel
theorem dL_law_994 : decode cL_law 994 = .ok (.aload_n 2, 1) := by decide +kernel
theorem dL_law_995 : decode cL_law 995 = .ok (.invokevirtual 131, 3) := by decide +kernel
theorem dL_law_998 : decode cL_law 998 = .ok (.if_icmp .eq 431, 3) := by decide +kernel
theorem dL_law_1001 : decode cL_law 1001 = .ok (.iconst 0, 1) := by decide +kernel
theorem dL_law_1002 : decode cL_law 1002 = .ok (.ireturn, 1) := by decide +kernel
theorem dL_law_1003 : decode cL_law 1003 = .ok (.aload_n 1, 1) := by decide +kernel
theorem dL_law_1004 : decode cL_law 1004 = .ok (.invokevirtual 132, 3) := by decide +kernel
theorem dL_law_1007 : decode cL_law 1007 = .ok (.aload_n 2, 1) := by decide +kernel
theorem dL_law_1008 : decode cL_law 1008 = .ok (.invokevirtual 135, 3) := by decide +kernel
theorem dL_law_1011 : decode cL_law 1011 = .ok (.if_icmp .eq 418, 3) := by decide +kernel
theorem dL_law_1014 : decode cL_law 1014 = .ok (.iconst 0, 1) := by decide +kernel
theorem dL_law_1015 : decode cL_law 1015 = .ok (.ireturn, 1) := by decide +kernel
theorem dL_law_1016 : decode cL_law 1016 = .ok (.aload_n 1, 1) := by decide +kernel
theorem dL_law_1017 : decode cL_law 1017 = .ok (.aload_n 0, 1) := by decide +kernel
theorem dL_law_1018 : decode cL_law 1018 = .ok (.iload 4, 2) := by decide +kernel
theorem dL_law_1020 : decode cL_law 1020 = .ok (.iconst 1, 1) := by decide +kernel
theorem dL_law_1021 : decode cL_law 1021 = .ok (.iadd, 1) := by decide +kernel
theorem dL_law_1022 : decode cL_law 1022 = .ok (.iaload, 1) := by decide +kernel
theorem dL_law_1023 : decode cL_law 1023 = .ok (.aload_n 0, 1) := by decide +kernel
theorem dL_law_1024 : decode cL_law 1024 = .ok (.iload 4, 2) := by decide +kernel
theorem dL_law_1026 : decode cL_law 1026 = .ok (.iconst 2, 1) := by decide +kernel
theorem dL_law_1027 : decode cL_law 1027 = .ok (.iadd, 1) := by decide +kernel
theorem dL_law_1028 : decode cL_law 1028 = .ok (.iaload, 1) := by decide +kernel
theorem dL_law_1029 : decode cL_law 1029 = .ok (.aload_n 0, 1) := by decide +kernel
theorem dL_law_1030 : decode cL_law 1030 = .ok (.iload 4, 2) := by decide +kernel
theorem dL_law_1032 : decode cL_law 1032 = .ok (.iconst 3, 1) := by decide +kernel
theorem dL_law_1033 : decode cL_law 1033 = .ok (.iadd, 1) := by decide +kernel
theorem dL_law_1034 : decode cL_law 1034 = .ok (.iaload, 1) := by decide +kernel
theorem dL_law_1035 : decode cL_law 1035 = .ok (.invokevirtual 136, 3) := by decide +kernel
theorem dL_law_1038 : decode cL_law 1038 = .ok (.aload_n 2, 1) := by decide +kernel
theorem dL_law_1039 : decode cL_law 1039 = .ok (.aload_n 0, 1) := by decide +kernel
theorem dL_law_1040 : decode cL_law 1040 = .ok (.iload 4, 2) := by decide +kernel
theorem dL_law_1042 : decode cL_law 1042 = .ok (.iconst 1, 1) := by decide +kernel
theorem dL_law_1043 : decode cL_law 1043 = .ok (.iadd, 1) := by decide +kernel
theorem dL_law_1044 : decode cL_law 1044 = .ok (.iaload, 1) := by decide +kernel
theorem dL_law_1045 : decode cL_law 1045 = .ok (.aload_n 0, 1) := by decide +kernel
theorem dL_law_1046 : decode cL_law 1046 = .ok (.iload 4, 2) := by decide +kernel
theorem dL_law_1048 : decode cL_law 1048 = .ok (.iconst 2, 1) := by decide +kernel
theorem dL_law_1049 : decode cL_law 1049 = .ok (.iadd, 1) := by decide +kernel
theorem dL_law_1050 : decode cL_law 1050 = .ok (.iaload, 1) := by decide +kernel
theorem dL_law_1051 : decode cL_law 1051 = .ok (.aload_n 0, 1) := by decide +kernel
theorem dL_law_1052 : decode cL_law 1052 = .ok (.iload 4, 2) := by decide +kernel
theorem dL_law_1054 : decode cL_law 1054 = .ok (.iconst 3, 1) := by decide +kernel
theorem dL_law_1055 : decode cL_law 1055 = .ok (.iadd, 1) := by decide +kernel
theorem dL_law_1056 : decode cL_law 1056 = .ok (.iaload, 1) := by decide +kernel
theorem dL_law_1057 : decode cL_law 1057 = .ok (.invokevirtual 139, 3) := by decide +kernel
theorem dL_law_1060 : decode cL_law 1060 = .ok (.if_icmp .eq 369, 3) := by decide +kernel
theorem dL_law_1063 : decode cL_law 1063 = .ok (.iconst 0, 1) := by decide +kernel
theorem dL_law_1064 : decode cL_law 1064 = .ok (.ireturn, 1) := by decide +kernel
theorem dL_law_1065 : decode cL_law 1065 = .ok (.aload_n 1, 1) := by decide +kernel
theorem dL_law_1066 : decode cL_law 1066 = .ok (.aload_n 0, 1) := by decide +kernel
theorem dL_law_1067 : decode cL_law 1067 = .ok (.iload 4, 2) := by decide +kernel
theorem dL_law_1069 : decode cL_law 1069 = .ok (.iconst 1, 1) := by decide +kernel
theorem dL_law_1070 : decode cL_law 1070 = .ok (.iadd, 1) := by decide +kernel
theorem dL_law_1071 : decode cL_law 1071 = .ok (.iaload, 1) := by decide +kernel
theorem dL_law_1072 : decode cL_law 1072 = .ok (.invokevirtual 140, 3) := by decide +kernel
theorem dL_law_1075 : decode cL_law 1075 = .ok (.aload_n 2, 1) := by decide +kernel
theorem dL_law_1076 : decode cL_law 1076 = .ok (.aload_n 0, 1) := by decide +kernel
theorem dL_law_1077 : decode cL_law 1077 = .ok (.iload 4, 2) := by decide +kernel
theorem dL_law_1079 : decode cL_law 1079 = .ok (.iconst 1, 1) := by decide +kernel
theorem dL_law_1080 : decode cL_law 1080 = .ok (.iadd, 1) := by decide +kernel
theorem dL_law_1081 : decode cL_law 1081 = .ok (.iaload, 1) := by decide +kernel
theorem dL_law_1082 : decode cL_law 1082 = .ok (.invokevirtual 143, 3) := by decide +kernel
theorem dL_law_1085 : decode cL_law 1085 = .ok (.if_icmp .eq 344, 3) := by decide +kernel
theorem dL_law_1088 : decode cL_law 1088 = .ok (.iconst 0, 1) := by decide +kernel
theorem dL_law_1089 : decode cL_law 1089 = .ok (.ireturn, 1) := by decide +kernel
theorem dL_law_1090 : decode cL_law 1090 = .ok (.aload_n 1, 1) := by decide +kernel
theorem dL_law_1091 : decode cL_law 1091 = .ok (.aload_n 0, 1) := by decide +kernel
theorem dL_law_1092 : decode cL_law 1092 = .ok (.iload 4, 2) := by decide +kernel
theorem dL_law_1094 : decode cL_law 1094 = .ok (.iconst 1, 1) := by decide +kernel
theorem dL_law_1095 : decode cL_law 1095 = .ok (.iadd, 1) := by decide +kernel
theorem dL_law_1096 : decode cL_law 1096 = .ok (.iaload, 1) := by decide +kernel
theorem dL_law_1097 : decode cL_law 1097 = .ok (.invokevirtual 144, 3) := by decide +kernel
theorem dL_law_1100 : decode cL_law 1100 = .ok (.aload_n 2, 1) := by decide +kernel
theorem dL_law_1101 : decode cL_law 1101 = .ok (.aload_n 0, 1) := by decide +kernel
theorem dL_law_1102 : decode cL_law 1102 = .ok (.iload 4, 2) := by decide +kernel
theorem dL_law_1104 : decode cL_law 1104 = .ok (.iconst 1, 1) := by decide +kernel
theorem dL_law_1105 : decode cL_law 1105 = .ok (.iadd, 1) := by decide +kernel
theorem dL_law_1106 : decode cL_law 1106 = .ok (.iaload, 1) := by decide +kernel
theorem dL_law_1107 : decode cL_law 1107 = .ok (.invokevirtual 147, 3) := by decide +kernel
theorem dL_law_1110 : decode cL_law 1110 = .ok (.if_icmp .eq 319, 3) := by decide +kernel
theorem dL_law_1113 : decode cL_law 1113 = .ok (.iconst 0, 1) := by decide +kernel
theorem dL_law_1114 : decode cL_law 1114 = .ok (.ireturn, 1) := by decide +kernel
theorem dL_law_1115 : decode cL_law 1115 = .ok (.aload_n 1, 1) := by decide +kernel
theorem dL_law_1116 : decode cL_law 1116 = .ok (.aload_n 0, 1) := by decide +kernel
theorem dL_law_1117 : decode cL_law 1117 = .ok (.iload 4, 2) := by decide +kernel
theorem dL_law_1119 : decode cL_law 1119 = .ok (.iconst 1, 1) := by decide +kernel
theorem dL_law_1120 : decode cL_law 1120 = .ok (.iadd, 1) := by decide +kernel
theorem dL_law_1121 : decode cL_law 1121 = .ok (.iaload, 1) := by decide +kernel
theorem dL_law_1122 : decode cL_law 1122 = .ok (.aload_n 0, 1) := by decide +kernel
theorem dL_law_1123 : decode cL_law 1123 = .ok (.iload 4, 2) := by decide +kernel
theorem dL_law_1125 : decode cL_law 1125 = .ok (.iconst 2, 1) := by decide +kernel
theorem dL_law_1126 : decode cL_law 1126 = .ok (.iadd, 1) := by decide +kernel
theorem dL_law_1127 : decode cL_law 1127 = .ok (.iaload, 1) := by decide +kernel
theorem dL_law_1128 : decode cL_law 1128 = .ok (.aload_n 0, 1) := by decide +kernel
theorem dL_law_1129 : decode cL_law 1129 = .ok (.iload 4, 2) := by decide +kernel
theorem dL_law_1131 : decode cL_law 1131 = .ok (.iconst 3, 1) := by decide +kernel
theorem dL_law_1132 : decode cL_law 1132 = .ok (.iadd, 1) := by decide +kernel
theorem dL_law_1133 : decode cL_law 1133 = .ok (.iaload, 1) := by decide +kernel
theorem dL_law_1134 : decode cL_law 1134 = .ok (.invokevirtual 148, 3) := by decide +kernel
theorem dL_law_1137 : decode cL_law 1137 = .ok (.aload_n 2, 1) := by decide +kernel
theorem dL_law_1138 : decode cL_law 1138 = .ok (.aload_n 0, 1) := by decide +kernel
theorem dL_law_1139 : decode cL_law 1139 = .ok (.iload 4, 2) := by decide +kernel
theorem dL_law_1141 : decode cL_law 1141 = .ok (.iconst 1, 1) := by decide +kernel
theorem dL_law_1142 : decode cL_law 1142 = .ok (.iadd, 1) := by decide +kernel
theorem dL_law_1143 : decode cL_law 1143 = .ok (.iaload, 1) := by decide +kernel
theorem dL_law_1144 : decode cL_law 1144 = .ok (.aload_n 0, 1) := by decide +kernel
theorem dL_law_1145 : decode cL_law 1145 = .ok (.iload 4, 2) := by decide +kernel
theorem dL_law_1147 : decode cL_law 1147 = .ok (.iconst 2, 1) := by decide +kernel
theorem dL_law_1148 : decode cL_law 1148 = .ok (.iadd, 1) := by decide +kernel
theorem dL_law_1149 : decode cL_law 1149 = .ok (.iaload, 1) := by decide +kernel
theorem dL_law_1150 : decode cL_law 1150 = .ok (.aload_n 0, 1) := by decide +kernel
theorem dL_law_1151 : decode cL_law 1151 = .ok (.iload 4, 2) := by decide +kernel
theorem dL_law_1153 : decode cL_law 1153 = .ok (.iconst 3, 1) := by decide +kernel
theorem dL_law_1154 : decode cL_law 1154 = .ok (.iadd, 1) := by decide +kernel
theorem dL_law_1155 : decode cL_law 1155 = .ok (.iaload, 1) := by decide +kernel
theorem dL_law_1156 : decode cL_law 1156 = .ok (.invokevirtual 151, 3) := by decide +kernel
theorem dL_law_1159 : decode cL_law 1159 = .ok (.if_icmp .eq 270, 3) := by decide +kernel
theorem dL_law_1162 : decode cL_law 1162 = .ok (.iconst 0, 1) := by decide +kernel
theorem dL_law_1163 : decode cL_law 1163 = .ok (.ireturn, 1) := by decide +kernel
theorem dL_law_1164 : decode cL_law 1164 = .ok (.aload_n 1, 1) := by decide +kernel
theorem dL_law_1165 : decode cL_law 1165 = .ok (.aload_n 0, 1) := by decide +kernel
theorem dL_law_1166 : decode cL_law 1166 = .ok (.iload 4, 2) := by decide +kernel
theorem dL_law_1168 : decode cL_law 1168 = .ok (.iconst 1, 1) := by decide +kernel
theorem dL_law_1169 : decode cL_law 1169 = .ok (.iadd, 1) := by decide +kernel
theorem dL_law_1170 : decode cL_law 1170 = .ok (.iaload, 1) := by decide +kernel
theorem dL_law_1171 : decode cL_law 1171 = .ok (.aload_n 0, 1) := by decide +kernel
theorem dL_law_1172 : decode cL_law 1172 = .ok (.iload 4, 2) := by decide +kernel
theorem dL_law_1174 : decode cL_law 1174 = .ok (.iconst 2, 1) := by decide +kernel
theorem dL_law_1175 : decode cL_law 1175 = .ok (.iadd, 1) := by decide +kernel
theorem dL_law_1176 : decode cL_law 1176 = .ok (.iaload, 1) := by decide +kernel
theorem dL_law_1177 : decode cL_law 1177 = .ok (.aload_n 3, 1) := by decide +kernel
theorem dL_law_1178 : decode cL_law 1178 = .ok (.invokestatic 152, 3) := by decide +kernel
theorem dL_law_1181 : decode cL_law 1181 = .ok (.istore 5, 2) := by decide +kernel
theorem dL_law_1183 : decode cL_law 1183 = .ok (.aload_n 2, 1) := by decide +kernel
theorem dL_law_1184 : decode cL_law 1184 = .ok (.aload_n 0, 1) := by decide +kernel
theorem dL_law_1185 : decode cL_law 1185 = .ok (.iload 4, 2) := by decide +kernel
theorem dL_law_1187 : decode cL_law 1187 = .ok (.iconst 1, 1) := by decide +kernel
theorem dL_law_1188 : decode cL_law 1188 = .ok (.iadd, 1) := by decide +kernel
theorem dL_law_1189 : decode cL_law 1189 = .ok (.iaload, 1) := by decide +kernel
theorem dL_law_1190 : decode cL_law 1190 = .ok (.aload_n 0, 1) := by decide +kernel
theorem dL_law_1191 : decode cL_law 1191 = .ok (.iload 4, 2) := by decide +kernel
theorem dL_law_1193 : decode cL_law 1193 = .ok (.iconst 2, 1) := by decide +kernel
theorem dL_law_1194 : decode cL_law 1194 = .ok (.iadd, 1) := by decide +kernel
theorem dL_law_1195 : decode cL_law 1195 = .ok (.iaload, 1) := by decide +kernel
theorem dL_law_1196 : decode cL_law 1196 = .ok (.invokevirtual 157, 3) := by decide +kernel
theorem dL_law_1199 : decode cL_law 1199 = .ok (.istore 6, 2) := by decide +kernel
theorem dL_law_1201 : decode cL_law 1201 = .ok (.aload_n 2, 1) := by decide +kernel
theorem dL_law_1202 : decode cL_law 1202 = .ok (.invokevirtual 158, 3) := by decide +kernel
theorem dL_law_1205 : decode cL_law 1205 = .ok (.iload 5, 2) := by decide +kernel
theorem dL_law_1207 : decode cL_law 1207 = .ok (.if_icmp .eq 5, 3) := by decide +kernel
theorem dL_law_1210 : decode cL_law 1210 = .ok (.iconst 0, 1) := by decide +kernel
theorem dL_law_1211 : decode cL_law 1211 = .ok (.ireturn, 1) := by decide +kernel
theorem dL_law_1212 : decode cL_law 1212 = .ok (.iload 5, 2) := by decide +kernel
theorem dL_law_1214 : decode cL_law 1214 = .ok (.ifCond .ne 15, 3) := by decide +kernel
theorem dL_law_1217 : decode cL_law 1217 = .ok (.aload_n 3, 1) := by decide +kernel
theorem dL_law_1218 : decode cL_law 1218 = .ok (.iconst 0, 1) := by decide +kernel
theorem dL_law_1219 : decode cL_law 1219 = .ok (.laload, 1) := by decide +kernel
theorem dL_law_1220 : decode cL_law 1220 = .ok (.iload 6, 2) := by decide +kernel
theorem dL_law_1222 : decode cL_law 1222 = .ok (.i2l, 1) := by decide +kernel
theorem dL_law_1223 : decode cL_law 1223 = .ok (.lcmp, 1) := by decide +kernel
theorem dL_law_1224 : decode cL_law 1224 = .ok (.ifCond .eq 5, 3) := by decide +kernel
theorem dL_law_1227 : decode cL_law 1227 = .ok (.iconst 0, 1) := by decide +kernel
theorem dL_law_1228 : decode cL_law 1228 = .ok (.ireturn, 1) := by decide +kernel
theorem dL_law_1229 : decode cL_law 1229 = .ok (.goto 200, 3) := by decide +kernel
theorem dL_law_1232 : decode cL_law 1232 = .ok (.aload_n 1, 1) := by decide +kernel
theorem dL_law_1233 : decode cL_law 1233 = .ok (.aload_n 0, 1) := by decide +kernel
theorem dL_law_1234 : decode cL_law 1234 = .ok (.iload 4, 2) := by decide +kernel
theorem dL_law_1236 : decode cL_law 1236 = .ok (.iconst 1, 1) := by decide +kernel
theorem dL_law_1237 : decode cL_law 1237 = .ok (.iadd, 1) := by decide +kernel
theorem dL_law_1238 : decode cL_law 1238 = .ok (.iaload, 1) := by decide +kernel
theorem dL_law_1239 : decode cL_law 1239 = .ok (.aload_n 0, 1) := by decide +kernel
theorem dL_law_1240 : decode cL_law 1240 = .ok (.iload 4, 2) := by decide +kernel
theorem dL_law_1242 : decode cL_law 1242 = .ok (.iconst 2, 1) := by decide +kernel
theorem dL_law_1243 : decode cL_law 1243 = .ok (.iadd, 1) := by decide +kernel
theorem dL_law_1244 : decode cL_law 1244 = .ok (.iaload, 1) := by decide +kernel
theorem dL_law_1245 : decode cL_law 1245 = .ok (.aload_n 0, 1) := by decide +kernel
theorem dL_law_1246 : decode cL_law 1246 = .ok (.iload 4, 2) := by decide +kernel
theorem dL_law_1248 : decode cL_law 1248 = .ok (.iconst 3, 1) := by decide +kernel
theorem dL_law_1249 : decode cL_law 1249 = .ok (.iadd, 1) := by decide +kernel
theorem dL_law_1250 : decode cL_law 1250 = .ok (.iaload, 1) := by decide +kernel
theorem dL_law_1251 : decode cL_law 1251 = .ok (.aload_n 0, 1) := by decide +kernel
theorem dL_law_1252 : decode cL_law 1252 = .ok (.iload 4, 2) := by decide +kernel
theorem dL_law_1254 : decode cL_law 1254 = .ok (.iconst 4, 1) := by decide +kernel
theorem dL_law_1255 : decode cL_law 1255 = .ok (.iadd, 1) := by decide +kernel
theorem dL_law_1256 : decode cL_law 1256 = .ok (.iaload, 1) := by decide +kernel
theorem dL_law_1257 : decode cL_law 1257 = .ok (.aload_n 0, 1) := by decide +kernel
theorem dL_law_1258 : decode cL_law 1258 = .ok (.iload 4, 2) := by decide +kernel
theorem dL_law_1260 : decode cL_law 1260 = .ok (.iconst 5, 1) := by decide +kernel
theorem dL_law_1261 : decode cL_law 1261 = .ok (.iadd, 1) := by decide +kernel
theorem dL_law_1262 : decode cL_law 1262 = .ok (.iaload, 1) := by decide +kernel
theorem dL_law_1263 : decode cL_law 1263 = .ok (.invokevirtual 161, 3) := by decide +kernel
theorem dL_law_1266 : decode cL_law 1266 = .ok (.aload_n 2, 1) := by decide +kernel
theorem dL_law_1267 : decode cL_law 1267 = .ok (.aload_n 0, 1) := by decide +kernel
theorem dL_law_1268 : decode cL_law 1268 = .ok (.iload 4, 2) := by decide +kernel
theorem dL_law_1270 : decode cL_law 1270 = .ok (.iconst 1, 1) := by decide +kernel
theorem dL_law_1271 : decode cL_law 1271 = .ok (.iadd, 1) := by decide +kernel
theorem dL_law_1272 : decode cL_law 1272 = .ok (.iaload, 1) := by decide +kernel
theorem dL_law_1273 : decode cL_law 1273 = .ok (.aload_n 0, 1) := by decide +kernel
theorem dL_law_1274 : decode cL_law 1274 = .ok (.iload 4, 2) := by decide +kernel
theorem dL_law_1276 : decode cL_law 1276 = .ok (.iconst 2, 1) := by decide +kernel
theorem dL_law_1277 : decode cL_law 1277 = .ok (.iadd, 1) := by decide +kernel
theorem dL_law_1278 : decode cL_law 1278 = .ok (.iaload, 1) := by decide +kernel
theorem dL_law_1279 : decode cL_law 1279 = .ok (.aload_n 0, 1) := by decide +kernel
theorem dL_law_1280 : decode cL_law 1280 = .ok (.iload 4, 2) := by decide +kernel
theorem dL_law_1282 : decode cL_law 1282 = .ok (.iconst 3, 1) := by decide +kernel
theorem dL_law_1283 : decode cL_law 1283 = .ok (.iadd, 1) := by decide +kernel
theorem dL_law_1284 : decode cL_law 1284 = .ok (.iaload, 1) := by decide +kernel
theorem dL_law_1285 : decode cL_law 1285 = .ok (.aload_n 0, 1) := by decide +kernel
theorem dL_law_1286 : decode cL_law 1286 = .ok (.iload 4, 2) := by decide +kernel
theorem dL_law_1288 : decode cL_law 1288 = .ok (.iconst 4, 1) := by decide +kernel
theorem dL_law_1289 : decode cL_law 1289 = .ok (.iadd, 1) := by decide +kernel
theorem dL_law_1290 : decode cL_law 1290 = .ok (.iaload, 1) := by decide +kernel
theorem dL_law_1291 : decode cL_law 1291 = .ok (.aload_n 0, 1) := by decide +kernel
theorem dL_law_1292 : decode cL_law 1292 = .ok (.iload 4, 2) := by decide +kernel
theorem dL_law_1294 : decode cL_law 1294 = .ok (.iconst 5, 1) := by decide +kernel
theorem dL_law_1295 : decode cL_law 1295 = .ok (.iadd, 1) := by decide +kernel
theorem dL_law_1296 : decode cL_law 1296 = .ok (.iaload, 1) := by decide +kernel
theorem dL_law_1297 : decode cL_law 1297 = .ok (.invokevirtual 165, 3) := by decide +kernel
theorem dL_law_1300 : decode cL_law 1300 = .ok (.if_icmp .eq 129, 3) := by decide +kernel
theorem dL_law_1303 : decode cL_law 1303 = .ok (.iconst 0, 1) := by decide +kernel
theorem dL_law_1304 : decode cL_law 1304 = .ok (.ireturn, 1) := by decide +kernel
theorem dL_law_1305 : decode cL_law 1305 = .ok (.aload_n 1, 1) := by decide +kernel
theorem dL_law_1306 : decode cL_law 1306 = .ok (.aload_n 0, 1) := by decide +kernel
theorem dL_law_1307 : decode cL_law 1307 = .ok (.iload 4, 2) := by decide +kernel
theorem dL_law_1309 : decode cL_law 1309 = .ok (.iconst 1, 1) := by decide +kernel
theorem dL_law_1310 : decode cL_law 1310 = .ok (.iadd, 1) := by decide +kernel
theorem dL_law_1311 : decode cL_law 1311 = .ok (.iaload, 1) := by decide +kernel
theorem dL_law_1312 : decode cL_law 1312 = .ok (.aload_n 0, 1) := by decide +kernel
theorem dL_law_1313 : decode cL_law 1313 = .ok (.iload 4, 2) := by decide +kernel
theorem dL_law_1315 : decode cL_law 1315 = .ok (.iconst 2, 1) := by decide +kernel
theorem dL_law_1316 : decode cL_law 1316 = .ok (.iadd, 1) := by decide +kernel
theorem dL_law_1317 : decode cL_law 1317 = .ok (.iaload, 1) := by decide +kernel
theorem dL_law_1318 : decode cL_law 1318 = .ok (.invokevirtual 166, 3) := by decide +kernel
theorem dL_law_1321 : decode cL_law 1321 = .ok (.aload_n 2, 1) := by decide +kernel
theorem dL_law_1322 : decode cL_law 1322 = .ok (.aload_n 0, 1) := by decide +kernel
theorem dL_law_1323 : decode cL_law 1323 = .ok (.iload 4, 2) := by decide +kernel
theorem dL_law_1325 : decode cL_law 1325 = .ok (.iconst 1, 1) := by decide +kernel
theorem dL_law_1326 : decode cL_law 1326 = .ok (.iadd, 1) := by decide +kernel
theorem dL_law_1327 : decode cL_law 1327 = .ok (.iaload, 1) := by decide +kernel
theorem dL_law_1328 : decode cL_law 1328 = .ok (.aload_n 0, 1) := by decide +kernel
theorem dL_law_1329 : decode cL_law 1329 = .ok (.iload 4, 2) := by decide +kernel
theorem dL_law_1331 : decode cL_law 1331 = .ok (.iconst 2, 1) := by decide +kernel
theorem dL_law_1332 : decode cL_law 1332 = .ok (.iadd, 1) := by decide +kernel
theorem dL_law_1333 : decode cL_law 1333 = .ok (.iaload, 1) := by decide +kernel
theorem dL_law_1334 : decode cL_law 1334 = .ok (.invokevirtual 169, 3) := by decide +kernel
theorem dL_law_1337 : decode cL_law 1337 = .ok (.if_icmp .eq 92, 3) := by decide +kernel
theorem dL_law_1340 : decode cL_law 1340 = .ok (.iconst 0, 1) := by decide +kernel
theorem dL_law_1341 : decode cL_law 1341 = .ok (.ireturn, 1) := by decide +kernel
theorem dL_law_1342 : decode cL_law 1342 = .ok (.aload_n 1, 1) := by decide +kernel
theorem dL_law_1343 : decode cL_law 1343 = .ok (.aload_n 0, 1) := by decide +kernel
theorem dL_law_1344 : decode cL_law 1344 = .ok (.iload 4, 2) := by decide +kernel
theorem dL_law_1346 : decode cL_law 1346 = .ok (.iconst 1, 1) := by decide +kernel
theorem dL_law_1347 : decode cL_law 1347 = .ok (.iadd, 1) := by decide +kernel
theorem dL_law_1348 : decode cL_law 1348 = .ok (.iaload, 1) := by decide +kernel
theorem dL_law_1349 : decode cL_law 1349 = .ok (.aload_n 0, 1) := by decide +kernel
theorem dL_law_1350 : decode cL_law 1350 = .ok (.iload 4, 2) := by decide +kernel
theorem dL_law_1352 : decode cL_law 1352 = .ok (.iconst 2, 1) := by decide +kernel
theorem dL_law_1353 : decode cL_law 1353 = .ok (.iadd, 1) := by decide +kernel
theorem dL_law_1354 : decode cL_law 1354 = .ok (.iaload, 1) := by decide +kernel
theorem dL_law_1355 : decode cL_law 1355 = .ok (.invokevirtual 170, 3) := by decide +kernel
theorem dL_law_1358 : decode cL_law 1358 = .ok (.aload_n 2, 1) := by decide +kernel
theorem dL_law_1359 : decode cL_law 1359 = .ok (.aload_n 0, 1) := by decide +kernel
theorem dL_law_1360 : decode cL_law 1360 = .ok (.iload 4, 2) := by decide +kernel
theorem dL_law_1362 : decode cL_law 1362 = .ok (.iconst 1, 1) := by decide +kernel
theorem dL_law_1363 : decode cL_law 1363 = .ok (.iadd, 1) := by decide +kernel
theorem dL_law_1364 : decode cL_law 1364 = .ok (.iaload, 1) := by decide +kernel
theorem dL_law_1365 : decode cL_law 1365 = .ok (.aload_n 0, 1) := by decide +kernel
theorem dL_law_1366 : decode cL_law 1366 = .ok (.iload 4, 2) := by decide +kernel
theorem dL_law_1368 : decode cL_law 1368 = .ok (.iconst 2, 1) := by decide +kernel
theorem dL_law_1369 : decode cL_law 1369 = .ok (.iadd, 1) := by decide +kernel
theorem dL_law_1370 : decode cL_law 1370 = .ok (.iaload, 1) := by decide +kernel
theorem dL_law_1371 : decode cL_law 1371 = .ok (.invokevirtual 173, 3) := by decide +kernel
theorem dL_law_1374 : decode cL_law 1374 = .ok (.if_icmp .eq 55, 3) := by decide +kernel
theorem dL_law_1377 : decode cL_law 1377 = .ok (.iconst 0, 1) := by decide +kernel
theorem dL_law_1378 : decode cL_law 1378 = .ok (.ireturn, 1) := by decide +kernel
theorem dL_law_1379 : decode cL_law 1379 = .ok (.aload_n 1, 1) := by decide +kernel
theorem dL_law_1380 : decode cL_law 1380 = .ok (.aload_n 0, 1) := by decide +kernel
theorem dL_law_1381 : decode cL_law 1381 = .ok (.iload 4, 2) := by decide +kernel
theorem dL_law_1383 : decode cL_law 1383 = .ok (.iconst 1, 1) := by decide +kernel
theorem dL_law_1384 : decode cL_law 1384 = .ok (.iadd, 1) := by decide +kernel
theorem dL_law_1385 : decode cL_law 1385 = .ok (.iaload, 1) := by decide +kernel
theorem dL_law_1386 : decode cL_law 1386 = .ok (.invokevirtual 174, 3) := by decide +kernel
theorem dL_law_1389 : decode cL_law 1389 = .ok (.aload_n 2, 1) := by decide +kernel
theorem dL_law_1390 : decode cL_law 1390 = .ok (.aload_n 0, 1) := by decide +kernel
theorem dL_law_1391 : decode cL_law 1391 = .ok (.iload 4, 2) := by decide +kernel
theorem dL_law_1393 : decode cL_law 1393 = .ok (.iconst 1, 1) := by decide +kernel
theorem dL_law_1394 : decode cL_law 1394 = .ok (.iadd, 1) := by decide +kernel
theorem dL_law_1395 : decode cL_law 1395 = .ok (.iaload, 1) := by decide +kernel
theorem dL_law_1396 : decode cL_law 1396 = .ok (.invokevirtual 177, 3) := by decide +kernel
theorem dL_law_1399 : decode cL_law 1399 = .ok (.if_icmp .eq 30, 3) := by decide +kernel
theorem dL_law_1402 : decode cL_law 1402 = .ok (.iconst 0, 1) := by decide +kernel
theorem dL_law_1403 : decode cL_law 1403 = .ok (.ireturn, 1) := by decide +kernel
theorem dL_law_1404 : decode cL_law 1404 = .ok (.aload_n 1, 1) := by decide +kernel
theorem dL_law_1405 : decode cL_law 1405 = .ok (.aload_n 0, 1) := by decide +kernel
theorem dL_law_1406 : decode cL_law 1406 = .ok (.iload 4, 2) := by decide +kernel
theorem dL_law_1408 : decode cL_law 1408 = .ok (.iconst 1, 1) := by decide +kernel
theorem dL_law_1409 : decode cL_law 1409 = .ok (.iadd, 1) := by decide +kernel
theorem dL_law_1410 : decode cL_law 1410 = .ok (.iaload, 1) := by decide +kernel
theorem dL_law_1411 : decode cL_law 1411 = .ok (.invokevirtual 178, 3) := by decide +kernel
theorem dL_law_1414 : decode cL_law 1414 = .ok (.aload_n 2, 1) := by decide +kernel
theorem dL_law_1415 : decode cL_law 1415 = .ok (.aload_n 0, 1) := by decide +kernel
theorem dL_law_1416 : decode cL_law 1416 = .ok (.iload 4, 2) := by decide +kernel
theorem dL_law_1418 : decode cL_law 1418 = .ok (.iconst 1, 1) := by decide +kernel
theorem dL_law_1419 : decode cL_law 1419 = .ok (.iadd, 1) := by decide +kernel
theorem dL_law_1420 : decode cL_law 1420 = .ok (.iaload, 1) := by decide +kernel
theorem dL_law_1421 : decode cL_law 1421 = .ok (.invokevirtual 181, 3) := by decide +kernel
theorem dL_law_1424 : decode cL_law 1424 = .ok (.if_icmp .eq 5, 3) := by decide +kernel
theorem dL_law_1427 : decode cL_law 1427 = .ok (.iconst 0, 1) := by decide +kernel
theorem dL_law_1428 : decode cL_law 1428 = .ok (.ireturn, 1) := by decide +kernel
theorem dL_law_1429 : decode cL_law 1429 = .ok (.iinc 4 6, 3) := by decide +kernel
theorem dL_law_1432 : decode cL_law 1432 = .ok (.goto (-1409), 3) := by decide +kernel
theorem dL_law_1435 : decode cL_law 1435 = .ok (.iconst 1, 1) := by decide +kernel
theorem dL_law_1436 : decode cL_law 1436 = .ok (.ireturn, 1) := by decide +kernel
end
section
/-! ===== A light judgement: a store of ints over a fixed layout of cells ===== -/
abbrev St : Type := Nat → Nat → Int32
abbrev Sh : Type := (Nat × Nat × List Nat) ⊕ (Nat × List (Option Nat))
abbrev Md : Type := MethodName × ByteArray × Nat × Option FieldType
def jn (h l : Int32) : Int64 := Int64.ofBitVec (h.toBitVec ++ l.toBitVec)
def jhi (x : Int64) : Int32 := Int32.ofBitVec (x.toBitVec.extractLsb' 32 32)
def jlo (x : Int64) : Int32 := Int32.ofBitVec (x.toBitVec.extractLsb' 0 32)
theorem jn_eq (x : Int64) : jn (jhi x) (jlo x) = x := by
  apply Int64.toBitVec_inj.mp
  show (x.toBitVec.extractLsb' 32 32 ++ x.toBitVec.extractLsb' 0 32) = x.toBitVec
  generalize x.toBitVec = b
  apply BitVec.eq_of_getLsbD_eq
  intro i hi
  rw [BitVec.getLsbD_append, BitVec.getLsbD_extractLsb', BitVec.getLsbD_extractLsb']
  by_cases h : i < 32
  · simp [h]
  · simp only [h, decide_false, cond_false]
    rw [show decide (i - 32 < 32) = true from decide_eq_true (by omega), show 32 + (i - 32) = i by omega]
    rfl
def up (σ : St) (k i : Nat) (x : Int32) : St := va_up σ k (upd (σ k) i x)
def upL (σ : St) (k i : Nat) (x : Int64) : St := va_up σ k (upd (upd (σ k) (2 * i) (jhi x)) (2 * i + 1) (jlo x))
def cvv (ad : Nat → Nat) (v : Value) : Value := match v with
  | .ref k => .ref (ad k)
  | v => v
theorem cvv_cat (ad : Nat → Nat) (v : Value) : (cvv ad v).category = v.category := by cases v <;> rfl
def wF (ad : Nat → Nat) (r : Nat → Int32) : Nat → List (Option Nat) → List Value
  | _, [] => []
  | j, f :: fs => (match f with | none => Value.int (r j) | some q => Value.ref (ad q)) :: wF ad r (j + 1) fs
def wE (dA : Nat → ClassId) (ad : Nat → Nat) (σ : St) (k : Nat) (h : Sh) : va_E := match h with
  | .inl (t, n, rs) => .inl (dA t, n, match t with
      | 2 => .inr (.inl (fun i => jn (σ k (2 * i)) (σ k (2 * i + 1))))
      | 3 => .inr (.inr (.inr (.inr (fun i => (rs[i]?).map ad))))
      | _ => .inl (σ k))
  | .inr (ci, fs) => .inr (ci, wF ad (σ k) 0 fs)
def wW (dA : Nat → ClassId) (ad : Nat → Nat) (σ : St) : Nat → List Sh → va_W
  | _, [] => []
  | k, h :: Y => (ad k, wE dA ad σ k h) :: wW dA ad σ (k + 1) Y
theorem wF_get (ad : Nat → Nat) (r : Nat → Int32) : ∀ (fs : List (Option Nat)) (j k : Nat), (wF ad r j fs)[k]? = (fs[k]?).map (fun f => match f with | none => Value.int (r (j + k)) | some q => Value.ref (ad q)) := by
  intro fs
  induction fs with
  | nil => intro j k; simp [wF]
  | cons f fs ih =>
    intro j k
    cases k with
    | zero => simp [wF]
    | succ k => simp only [wF, List.getElem?_cons_succ]; rw [ih (j + 1) k]; congr 1; funext f; cases f <;> simp [Nat.add_assoc, Nat.add_comm 1]
theorem wF_len (ad : Nat → Nat) (r : Nat → Int32) : ∀ (fs : List (Option Nat)) (j : Nat), (wF ad r j fs).length = fs.length := by
  intro fs
  induction fs with
  | nil => intro j; rfl
  | cons f fs ih => intro j; simp [wF, ih]
theorem wF_set (ad : Nat → Nat) (r : Nat → Int32) (x : Int32) : ∀ (fs : List (Option Nat)) (j k : Nat), fs[k]? = some none → (wF ad r j fs).set k (.int x) = wF ad (upd r (j + k) x) j fs := by
  intro fs j k h
  apply List.ext_getElem?
  intro n
  rw [wF_get, List.getElem?_set, wF_len, wF_get]
  have hk : k < fs.length := (List.getElem?_eq_some_iff.mp h).1
  by_cases e : k = n
  · subst e
    rw [if_pos rfl, if_pos hk, h]
    simp [upd]
  · rw [if_neg e]
    congr 1
    funext f
    cases f with
    | none => simp only; congr 1; unfold upd; rw [if_neg (by omega)]
    | some q => rfl
theorem wW_get (dA : Nat → ClassId) (ad : Nat → Nat) (σ : St) : ∀ (Y : List Sh) (j k : Nat), (wW dA ad σ j Y)[k]? = (Y[k]?).map (fun h => (ad (j + k), wE dA ad σ (j + k) h)) := by
  intro Y
  induction Y with
  | nil => intro j k; simp [wW]
  | cons f fs ih =>
    intro j k
    cases k with
    | zero => simp [wW]
    | succ k => simp only [wW, List.getElem?_cons_succ]; rw [ih (j + 1) k]; congr 1; funext f; simp [Nat.add_assoc, Nat.add_comm 1]
theorem wW_at {dA : Nat → ClassId} {ad : Nat → Nat} {σ : St} {Y : List Sh} {k : Nat} {h : Sh} (hk : Y[k]? = some h) : (wW dA ad σ 0 Y)[k]? = some (ad k, wE dA ad σ k h) := by
  rw [wW_get, hk]; simp
theorem wW_len (dA : Nat → ClassId) (ad : Nat → Nat) (σ : St) : ∀ (Y : List Sh) (j : Nat), (wW dA ad σ j Y).length = Y.length := by
  intro Y
  induction Y with
  | nil => intro j; rfl
  | cons f fs ih => intro j; simp [wW, ih]
theorem wE_same {dA : Nat → ClassId} {ad : Nat → Nat} {σ τ : St} {k : Nat} (h : Sh) (e : σ k = τ k) : wE dA ad σ k h = wE dA ad τ k h := by
  unfold wE; rw [e]
theorem wW_set {dA : Nat → ClassId} {ad : Nat → Nat} {σ τ : St} {Y : List Sh} {k : Nat} {h : Sh} (hk : Y[k]? = some h) {E : va_E} (hE : E = wE dA ad τ k h) (ho : ∀ j, j ≠ k → τ j = σ j) : (wW dA ad σ 0 Y).set k (ad k, E) = wW dA ad τ 0 Y := by
  apply List.ext_getElem?
  intro n
  rw [List.getElem?_set, wW_len]
  have hkl : k < Y.length := (List.getElem?_eq_some_iff.mp hk).1
  by_cases e : k = n
  · subst e
    rw [if_pos rfl, if_pos hkl, wW_at hk, hE]
  · rw [if_neg e, wW_get, wW_get]
    have hh : (fun h => (ad (0 + n), wE dA ad σ (0 + n) h)) = (fun h => (ad (0 + n), wE dA ad τ (0 + n) h)) := by
      funext f
      rw [wE_same f (show σ (0 + n) = τ (0 + n) from (ho (0 + n) (by omega)).symm)]
    rw [hh]
theorem up_o {σ : St} {k i : Nat} {x : Int32} : ∀ j, j ≠ k → up σ k i x j = σ j := fun j h => by unfold up va_up; rw [if_neg h]
theorem upL_o {σ : St} {k i : Nat} {x : Int64} : ∀ j, j ≠ k → upL σ k i x j = σ j := fun j h => by unfold upL va_up; rw [if_neg h]
theorem up_k {σ : St} {k i : Nat} {x : Int32} : up σ k i x k = upd (σ k) i x := by unfold up va_up; rw [if_pos rfl]
theorem upL_k {σ : St} {k i : Nat} {x : Int64} : upL σ k i x k = upd (upd (σ k) (2 * i) (jhi x)) (2 * i + 1) (jlo x) := by unfold upL va_up; rw [if_pos rfl]
/-- the addresses of a layout -/
def cA (ad : Nat → Nat) (Y : List Sh) : Nat → Prop := fun q => ∃ k, k < Y.length ∧ q = ad k
/-- the addresses are apart -/
def cD (ad : Nat → Nat) (Y : List Sh) : Prop := ∀ i j, i < Y.length → j < Y.length → ad i = ad j → i = j
theorem cD.D {ad : Nat → Nat} {Y : List Sh} (h : cD ad Y) (dA : Nat → ClassId) (σ : St) : va_D (cA ad Y) (wW dA ad σ 0 Y) := by
  constructor
  · intro i j p q hp hq e
    rw [wW_get] at hp hq
    obtain ⟨a, ha, rfl⟩ := Option.map_eq_some_iff.mp hp
    obtain ⟨b, hb, rfl⟩ := Option.map_eq_some_iff.mp hq
    simp only [Nat.zero_add] at e
    exact h i j (List.getElem?_eq_some_iff.mp ha).1 (List.getElem?_eq_some_iff.mp hb).1 e
  · intro k q hq
    rw [wW_get] at hq
    obtain ⟨a, ha, rfl⟩ := Option.map_eq_some_iff.mp hq
    exact ⟨k, (List.getElem?_eq_some_iff.mp ha).1, by simp⟩
def tyl (dA : Nat → ClassId) : List (ClassId × FieldType) := [(dA 0, .int), (dA 1, .boolean), (dA 2, .long), (dA 3, .object "PegCourt$Shelf")]
/-- the words of all methods: those of the tables that stay -/
def gw : List Cond := lw_tbl.filter goodWord
def isNest : Cond → Bool
  | .fieldLinkNest .. => true
  | .methodLinkNest .. => true
  | _ => false
/-- the words of nest mates: they ride in the contracts' premise -/
def nK (U : State) : Prop := ∀ w ∈ lw_tbl, isNest w = true → va_Nw w U
theorem nK.warm {s U : State} (hW : s.WarmedH U.vm) (h : nK s) : nK U := by
  intro w hw hn
  have h1 := h w hw hn
  cases w <;> first | (exact va_Nw.warmF hW h1) | (exact va_Nw.warmM hW h1) | (exact absurd hn (by simp [isNest]))
theorem nK.same {s U : State} (hW : s.vm = U.vm) (h : nK s) : nK U := by
  intro w hw hn
  have h1 := h w hw hn
  cases w <;> first | (exact va_Nw.same rfl hW h1) | (exact absurd hn (by simp [isNest]))
theorem gw_good {ws : List Cond} (h : ∀ w ∈ ws, w ∈ gw) : GoodIn gw ws := fun w hw => ⟨h w hw, good_of_word (List.mem_filter.mp (h w hw)).2⟩
theorem gw_in {w : Cond} (h : w ∈ lw_tbl) (hg : goodWord w = true) : w ∈ gw := List.mem_filter.mpr ⟨h, hg⟩
def rmD (d : Nat) : Room := { frames := d, cells := 0, slots := 0, locals := 64 * d }
def cP (D : va_G) (dA : Nat → ClassId) (ad : Nat → Nat) (Y : List Sh) (av : List Value) (σ : St) : Array Value → State → Prop := fun v U => v = (av.map (cvv ad)).toArray ∧ va_P D vwCl (wW dA ad σ 0 Y) U.heap ∧ va_K D vwCl (tyl dA) U ∧ cD ad Y ∧ nK U
def cQ (D : va_G) (dA : Nat → ClassId) (ad : Nat → Nat) (Y : List Sh) (Q : Option Value → St → Prop) : Array Value → State → Outcome → State → Prop := fun _ st o t => (∃ (r : Option Value) (τ : St), o = .returned (r.map (cvv ad)) ∧ Q r τ ∧ va_P D vwCl (wW dA ad τ 0 Y) t.heap) ∧ va_F (cA ad Y) st t
/-- A METHOD's CONTRACT over a layout: at the store σ, called with av, it returns, and answer and store are as Q says; nothing is made, nothing outside the layout changes -/
def Mt (Y : List Sh) (md : Md) (d : Nat) (av : List Value) (σ : St) (Q : Option Value → St → Prop) : Prop :=
  ∀ (l : Launch) (D : va_G) (dA : Nat → ClassId) (ad : Nat → Nat), Met l md.1 (.code md.1 md.2.1 md.2.2.1 md.2.2.2 :: gw) (rmD d) (cP D dA ad Y av σ) (cQ D dA ad Y Q) 0 0 (cA ad Y)
/-! locals: a list, by place -/
def lvl (ad : Nat → Nat) : Nat → List (Option Value) → List (Nat × Value)
  | _, [] => []
  | i, none :: t => lvl ad (i + 1) t
  | i, some v :: t => (i, cvv ad v) :: lvl ad (i + 1) t
theorem lvl_mem {ad : Nat → Nat} : ∀ (lv : List (Option Value)) (j : Nat) (q : Nat × Value), q ∈ lvl ad j lv ↔ ∃ (i : Nat) (v : Value), lv[i]? = some (some v) ∧ q = (j + i, cvv ad v) := by
  intro lv
  induction lv with
  | nil => intro j q; simp [lvl]
  | cons f t ih =>
    intro j q
    cases f with
    | none =>
      simp only [lvl]
      rw [ih]
      constructor
      · rintro ⟨i, v, h, rfl⟩; exact ⟨i + 1, v, by simpa using h, by simp [Nat.add_assoc, Nat.add_comm 1]⟩
      · rintro ⟨i, v, h, rfl⟩
        cases i with
        | zero => simp at h
        | succ i => exact ⟨i, v, by simpa using h, by simp [Nat.add_assoc, Nat.add_comm 1]⟩
    | some w =>
      simp only [lvl, List.mem_cons]
      rw [ih]
      constructor
      · rintro (rfl | ⟨i, v, h, rfl⟩)
        · exact ⟨0, w, by simp, by simp⟩
        · exact ⟨i + 1, v, by simpa using h, by simp [Nat.add_assoc, Nat.add_comm 1]⟩
      · rintro ⟨i, v, h, rfl⟩
        cases i with
        | zero => simp at h; subst h; exact Or.inl (by simp)
        | succ i => exact Or.inr ⟨i, v, by simpa using h, by simp [Nat.add_assoc, Nat.add_comm 1]⟩
theorem lvl_at {ad : Nat → Nat} {lv : List (Option Value)} {ls : Array Slot} {nL i : Nat} {v : Value} (h : lv_has ls nL (lvl ad 0 lv)) (hv : lv[i]? = some (some v)) : ls[i]? = some (.val (cvv ad v)) :=
  h.2.2 (i, cvv ad v) ((lvl_mem lv 0 _).mpr ⟨i, v, hv, by simp⟩)
/-- the place ahead of i holds no long -/
def lvok (lv : List (Option Value)) (i : Nat) : Bool := match i with
  | 0 => true
  | j + 1 => match lv[j]? with
    | some (some (.long _)) => false
    | some (some (.double _)) => false
    | _ => true
theorem lvl_set1 {ad : Nat → Nat} {lv : List (Option Value)} {ls : Array Slot} {nL i : Nat} {v : Value} (hok : lvok lv i = true) (h : lv_has ls nL ((i, cvv ad v) :: (lvl ad 0 lv).filter (fun q => !(q.1 == i) && !(q.1 + 1 == i && q.2.category == 2)))) : lv_has ls nL (lvl ad 0 (lv.set i (some v))) := by
  refine ⟨h.1, h.2.1, fun q hq => h.2.2 q ?_⟩
  obtain ⟨j, w, hj, rfl⟩ := (lvl_mem _ 0 q).mp hq
  simp only [Nat.zero_add]
  rw [List.getElem?_set] at hj
  by_cases e : i = j
  · subst e
    rw [if_pos rfl] at hj
    split at hj
    · cases hj; exact List.mem_cons_self
    · cases hj
  · rw [if_neg e] at hj
    refine List.mem_cons_of_mem _ (List.mem_filter.mpr ⟨(lvl_mem lv 0 _).mpr ⟨j, w, hj, by simp⟩, ?_⟩)
    simp only [Bool.and_eq_true, Bool.not_eq_true', beq_eq_false_iff_ne, ne_eq, Bool.and_eq_false_iff]
    refine ⟨fun q => e q.symm, ?_⟩
    by_cases e2 : j + 1 = i
    · refine Or.inr ?_
      subst e2
      rw [cvv_cat]
      unfold lvok at hok
      simp only at hok
      rw [hj] at hok
      cases w <;> simp_all [Value.category]
    · exact Or.inl e2
theorem lvl_set2 {ad : Nat → Nat} {lv : List (Option Value)} {ls : Array Slot} {nL i : Nat} {v : Value} (hok : lvok lv i = true) (h : lv_has ls nL ((i, cvv ad v) :: (lvl ad 0 lv).filter (fun q => !(q.1 == i) && (!(q.1 == i + 1) && !(q.1 + 1 == i && q.2.category == 2))))) : lv_has ls nL (lvl ad 0 ((lv.set i (some v)).set (i + 1) none)) := by
  refine ⟨h.1, h.2.1, fun q hq => h.2.2 q ?_⟩
  obtain ⟨j, w, hj, rfl⟩ := (lvl_mem _ 0 q).mp hq
  simp only [Nat.zero_add]
  rw [List.getElem?_set, List.getElem?_set] at hj
  by_cases e0 : i + 1 = j
  · subst e0
    simp at hj
  · rw [if_neg e0] at hj
    by_cases e : i = j
    · subst e
      rw [if_pos rfl] at hj
      split at hj
      · cases hj; exact List.mem_cons_self
      · cases hj
    · rw [if_neg e] at hj
      refine List.mem_cons_of_mem _ (List.mem_filter.mpr ⟨(lvl_mem lv 0 _).mpr ⟨j, w, hj, by simp⟩, ?_⟩)
      simp only [Bool.and_eq_true, Bool.not_eq_true', beq_eq_false_iff_ne, ne_eq, Bool.and_eq_false_iff]
      refine ⟨fun q => e q.symm, fun q => e0 q.symm, ?_⟩
      by_cases e2 : j + 1 = i
      · refine Or.inr ?_
        subst e2
        rw [cvv_cat]
        unfold lvok at hok
        simp only at hok
        rw [hj] at hok
        cases w <;> simp_all [Value.category]
      · exact Or.inl e2
/-! ===== the judgement ===== -/
abbrev Gx : Type := Program × Launch × Env × Room × State × MethodId × Array Value × List Frame × Method × Code × va_G × (Nat → ClassId) × (Nat → Nat)
/-- what stands fast in a method's body: own, its bytes, how many locals, its return type, its depth -/
def cX (g : Gx) (Y : List Sh) (own : String) (cc : ByteArray) (nL : Nat) (ret : Option FieldType) (d : Nat) : Prop := match g with
  | (p, _, _, R, s, m, args, _, meth, c, D, dA, ad) => p.tables.exec = Jvm.exec ∧ c.code = cc ∧ c.maxLocals = nL ∧ meth.sig.returnType = ret ∧ meth.locks = false ∧ s.vm.findClass own = some m.cls ∧ (∀ w ∈ gw, w.before args s = true) ∧ va_K D vwCl (tyl dA) s ∧ cD ad Y ∧ R = rmD d ∧ nK s
/-- the machine stands at pc with locals lv, operands st, store σ: it comes to an end with Q -/
def aW (g : Gx) (Y : List Sh) (nL : Nat) (Q : Option Value → St → Prop) (pc : Nat) (lv : List (Option Value)) (st : List Value) (σ : St) : Prop := match g with
  | (p, l, e, R, s, m, args, below, meth, c, D, dA, ad) => ∀ (H : Heap) (locs : List Loc) (ls : Array Slot), va_P D vwCl (wW dA ad σ 0 Y) H → va_S (cA ad Y) s.heap H locs → lv_has ls nL (lvl ad 0 lv) →
      W p l e R s m args below meth c H locs 0 0 (MQ below (cQ D dA ad Y Q) args s 0 0 (cA ad Y)) (F0 m pc ls (st.map (cvv ad)))

theorem st_iconst {g : Gx} {Y : List Sh} {own : String} {cc : ByteArray} {nL : Nat} {ret : Option FieldType} {d : Nat} {Q : Option Value → St → Prop} {pc : Nat} {lv : List (Option Value)} {st : List Value} {σ : St} {n : Int} {v : Int32} (hc : cX g Y own cc nL ret d) (hd : decode cc pc = .ok (.iconst n, 1)) (hv : Int32.ofInt n = v) (k : aW g Y nL Q (pc + 1) lv (.int v :: st) σ) : aW g Y nL Q pc lv st σ := by
  obtain ⟨p, l, e, R, s, m, args, below, meth, c, D, dA, ad⟩ := g
  obtain ⟨hx, hb, hml, hr, hlk, hown, hts, hK, hD, hR, hN⟩ := hc
  intro H locs ls hP hS hl
  exact lv_iconst hx hb hd hv (k H locs ls hP hS hl)
theorem st_bipush {g : Gx} {Y : List Sh} {own : String} {cc : ByteArray} {nL : Nat} {ret : Option FieldType} {d : Nat} {Q : Option Value → St → Prop} {pc : Nat} {lv : List (Option Value)} {st : List Value} {σ : St} {n : Int} {v : Int32} (hc : cX g Y own cc nL ret d) (hd : decode cc pc = .ok (.bipush n, 2)) (hv : (Int8.ofInt n).toInt32 = v) (k : aW g Y nL Q (pc + 2) lv (.int v :: st) σ) : aW g Y nL Q pc lv st σ := by
  obtain ⟨p, l, e, R, s, m, args, below, meth, c, D, dA, ad⟩ := g
  obtain ⟨hx, hb, hml, hr, hlk, hown, hts, hK, hD, hR, hN⟩ := hc
  intro H locs ls hP hS hl
  exact lv_bipush hx hb hd hv (k H locs ls hP hS hl)
theorem st_sipush {g : Gx} {Y : List Sh} {own : String} {cc : ByteArray} {nL : Nat} {ret : Option FieldType} {d : Nat} {Q : Option Value → St → Prop} {pc : Nat} {lv : List (Option Value)} {st : List Value} {σ : St} {n : Int} {v : Int32} (hc : cX g Y own cc nL ret d) (hd : decode cc pc = .ok (.sipush n, 3)) (hv : (Int16.ofInt n).toInt32 = v) (k : aW g Y nL Q (pc + 3) lv (.int v :: st) σ) : aW g Y nL Q pc lv st σ := by
  obtain ⟨p, l, e, R, s, m, args, below, meth, c, D, dA, ad⟩ := g
  obtain ⟨hx, hb, hml, hr, hlk, hown, hts, hK, hD, hR, hN⟩ := hc
  intro H locs ls hP hS hl
  exact lv_sipush hx hb hd hv (k H locs ls hP hS hl)
theorem st_lconst {g : Gx} {Y : List Sh} {own : String} {cc : ByteArray} {nL : Nat} {ret : Option FieldType} {d : Nat} {Q : Option Value → St → Prop} {pc : Nat} {lv : List (Option Value)} {st : List Value} {σ : St} {n : Fin 2} {v : Int64} (hc : cX g Y own cc nL ret d) (hd : decode cc pc = .ok (.lconst n, 1)) (hv : Int64.ofNat (n : Nat) = v) (k : aW g Y nL Q (pc + 1) lv (.long v :: st) σ) : aW g Y nL Q pc lv st σ := by
  obtain ⟨p, l, e, R, s, m, args, below, meth, c, D, dA, ad⟩ := g
  obtain ⟨hx, hb, hml, hr, hlk, hown, hts, hK, hD, hR, hN⟩ := hc
  intro H locs ls hP hS hl
  exact lv_lconst hx hb hd hv (k H locs ls hP hS hl)
theorem st_ldc {g : Gx} {Y : List Sh} {own : String} {cc : ByteArray} {nL : Nat} {ret : Option FieldType} {d : Nat} {Q : Option Value → St → Prop} {pc : Nat} {lv : List (Option Value)} {st : List Value} {σ : St} {i : Nat} {v : Int32} (hc : cX g Y own cc nL ret d) (hd : decode cc pc = .ok (.ldc i, 2)) (hw : Cond.constant own i v ∈ gw) (k : aW g Y nL Q (pc + 2) lv (.int v :: st) σ) : aW g Y nL Q pc lv st σ := by
  obtain ⟨p, l, e, R, s, m, args, below, meth, c, D, dA, ad⟩ := g
  obtain ⟨hx, hb, hml, hr, hlk, hown, hts, hK, hD, hR, hN⟩ := hc
  intro H locs ls hP hS hl
  exact lv_ldc hx hb hown (hts _ hw) hd (k H locs ls hP hS hl)
theorem st_ldc2 {g : Gx} {Y : List Sh} {own : String} {cc : ByteArray} {nL : Nat} {ret : Option FieldType} {d : Nat} {Q : Option Value → St → Prop} {pc : Nat} {lv : List (Option Value)} {st : List Value} {σ : St} {i : Nat} {v : Int64} (hc : cX g Y own cc nL ret d) (hd : decode cc pc = .ok (.ldc2_w i, 3)) (hw : Cond.constantLong own i v ∈ gw) (k : aW g Y nL Q (pc + 3) lv (.long v :: st) σ) : aW g Y nL Q pc lv st σ := by
  obtain ⟨p, l, e, R, s, m, args, below, meth, c, D, dA, ad⟩ := g
  obtain ⟨hx, hb, hml, hr, hlk, hown, hts, hK, hD, hR, hN⟩ := hc
  intro H locs ls hP hS hl
  exact lv_ldc2 hx hb hown (hts _ hw) hd (k H locs ls hP hS hl)
theorem st_iload_n {g : Gx} {Y : List Sh} {own : String} {cc : ByteArray} {nL : Nat} {ret : Option FieldType} {d : Nat} {Q : Option Value → St → Prop} {pc : Nat} {lv : List (Option Value)} {st : List Value} {σ : St} {j : Fin 4} {i : Nat} {x : Int32} (hc : cX g Y own cc nL ret d) (hd : decode cc pc = .ok (.iload_n j, 1)) (hi : (j : Nat) = i) (hv : lv[i]? = some (some (.int x))) (k : aW g Y nL Q (pc + 1) lv (.int x :: st) σ) : aW g Y nL Q pc lv st σ := by
  obtain ⟨p, l, e, R, s, m, args, below, meth, c, D, dA, ad⟩ := g
  obtain ⟨hx, hb, hml, hr, hlk, hown, hts, hK, hD, hR, hN⟩ := hc
  intro H locs ls hP hS hl
  exact lv_iload_n hx hb hd hi (lvl_at hl hv) (k H locs ls hP hS hl)
theorem st_iload {g : Gx} {Y : List Sh} {own : String} {cc : ByteArray} {nL : Nat} {ret : Option FieldType} {d : Nat} {Q : Option Value → St → Prop} {pc : Nat} {lv : List (Option Value)} {st : List Value} {σ : St} {i : Nat} {x : Int32} (hc : cX g Y own cc nL ret d) (hd : decode cc pc = .ok (.iload i, 2)) (hv : lv[i]? = some (some (.int x))) (k : aW g Y nL Q (pc + 2) lv (.int x :: st) σ) : aW g Y nL Q pc lv st σ := by
  obtain ⟨p, l, e, R, s, m, args, below, meth, c, D, dA, ad⟩ := g
  obtain ⟨hx, hb, hml, hr, hlk, hown, hts, hK, hD, hR, hN⟩ := hc
  intro H locs ls hP hS hl
  exact lv_iload hx hb hd (lvl_at hl hv) (k H locs ls hP hS hl)
theorem st_lload_n {g : Gx} {Y : List Sh} {own : String} {cc : ByteArray} {nL : Nat} {ret : Option FieldType} {d : Nat} {Q : Option Value → St → Prop} {pc : Nat} {lv : List (Option Value)} {st : List Value} {σ : St} {j : Fin 4} {i : Nat} {x : Int64} (hc : cX g Y own cc nL ret d) (hd : decode cc pc = .ok (.lload_n j, 1)) (hi : (j : Nat) = i) (hv : lv[i]? = some (some (.long x))) (k : aW g Y nL Q (pc + 1) lv (.long x :: st) σ) : aW g Y nL Q pc lv st σ := by
  obtain ⟨p, l, e, R, s, m, args, below, meth, c, D, dA, ad⟩ := g
  obtain ⟨hx, hb, hml, hr, hlk, hown, hts, hK, hD, hR, hN⟩ := hc
  intro H locs ls hP hS hl
  exact lv_lload_n hx hb hd hi (lvl_at hl hv) (k H locs ls hP hS hl)
theorem st_lload {g : Gx} {Y : List Sh} {own : String} {cc : ByteArray} {nL : Nat} {ret : Option FieldType} {d : Nat} {Q : Option Value → St → Prop} {pc : Nat} {lv : List (Option Value)} {st : List Value} {σ : St} {i : Nat} {x : Int64} (hc : cX g Y own cc nL ret d) (hd : decode cc pc = .ok (.lload i, 2)) (hv : lv[i]? = some (some (.long x))) (k : aW g Y nL Q (pc + 2) lv (.long x :: st) σ) : aW g Y nL Q pc lv st σ := by
  obtain ⟨p, l, e, R, s, m, args, below, meth, c, D, dA, ad⟩ := g
  obtain ⟨hx, hb, hml, hr, hlk, hown, hts, hK, hD, hR, hN⟩ := hc
  intro H locs ls hP hS hl
  exact lv_lload hx hb hd (lvl_at hl hv) (k H locs ls hP hS hl)
theorem st_aload_n {g : Gx} {Y : List Sh} {own : String} {cc : ByteArray} {nL : Nat} {ret : Option FieldType} {d : Nat} {Q : Option Value → St → Prop} {pc : Nat} {lv : List (Option Value)} {st : List Value} {σ : St} {j : Fin 4} {i : Nat} {x : Nat} (hc : cX g Y own cc nL ret d) (hd : decode cc pc = .ok (.aload_n j, 1)) (hi : (j : Nat) = i) (hv : lv[i]? = some (some (.ref x))) (k : aW g Y nL Q (pc + 1) lv (.ref x :: st) σ) : aW g Y nL Q pc lv st σ := by
  obtain ⟨p, l, e, R, s, m, args, below, meth, c, D, dA, ad⟩ := g
  obtain ⟨hx, hb, hml, hr, hlk, hown, hts, hK, hD, hR, hN⟩ := hc
  intro H locs ls hP hS hl
  exact lv_aload_n hx hb hd hi (lvl_at hl hv) (k H locs ls hP hS hl)
theorem st_aload {g : Gx} {Y : List Sh} {own : String} {cc : ByteArray} {nL : Nat} {ret : Option FieldType} {d : Nat} {Q : Option Value → St → Prop} {pc : Nat} {lv : List (Option Value)} {st : List Value} {σ : St} {i : Nat} {x : Nat} (hc : cX g Y own cc nL ret d) (hd : decode cc pc = .ok (.aload i, 2)) (hv : lv[i]? = some (some (.ref x))) (k : aW g Y nL Q (pc + 2) lv (.ref x :: st) σ) : aW g Y nL Q pc lv st σ := by
  obtain ⟨p, l, e, R, s, m, args, below, meth, c, D, dA, ad⟩ := g
  obtain ⟨hx, hb, hml, hr, hlk, hown, hts, hK, hD, hR, hN⟩ := hc
  intro H locs ls hP hS hl
  exact lv_aload hx hb hd (lvl_at hl hv) (k H locs ls hP hS hl)
theorem st_istore_n {g : Gx} {Y : List Sh} {own : String} {cc : ByteArray} {nL : Nat} {ret : Option FieldType} {d : Nat} {Q : Option Value → St → Prop} {pc : Nat} {lv : List (Option Value)} {st : List Value} {σ : St} {j : Fin 4} {i : Nat} {x : Int32} (hc : cX g Y own cc nL ret d) (hd : decode cc pc = .ok (.istore_n j, 1)) (hi : (j : Nat) = i) (hn : i < nL) (hok : lvok lv i = true) (k : aW g Y nL Q (pc + 1) (lv.set i (some (.int x))) st σ) : aW g Y nL Q pc lv (.int x :: st) σ := by
  obtain ⟨p, l, e, R, s, m, args, below, meth, c, D, dA, ad⟩ := g
  obtain ⟨hx, hb, hml, hr, hlk, hown, hts, hK, hD, hR, hN⟩ := hc
  intro H locs ls hP hS hl
  exact lv_istore_n hx hb hd hi hl hn rfl (fun ls hl => k H locs ls hP hS (lvl_set1 hok hl))
theorem st_istore {g : Gx} {Y : List Sh} {own : String} {cc : ByteArray} {nL : Nat} {ret : Option FieldType} {d : Nat} {Q : Option Value → St → Prop} {pc : Nat} {lv : List (Option Value)} {st : List Value} {σ : St} {i : Nat} {x : Int32} (hc : cX g Y own cc nL ret d) (hd : decode cc pc = .ok (.istore i, 2)) (hn : i < nL) (hok : lvok lv i = true) (k : aW g Y nL Q (pc + 2) (lv.set i (some (.int x))) st σ) : aW g Y nL Q pc lv (.int x :: st) σ := by
  obtain ⟨p, l, e, R, s, m, args, below, meth, c, D, dA, ad⟩ := g
  obtain ⟨hx, hb, hml, hr, hlk, hown, hts, hK, hD, hR, hN⟩ := hc
  intro H locs ls hP hS hl
  exact lv_istore hx hb hd hl hn rfl (fun ls hl => k H locs ls hP hS (lvl_set1 hok hl))
theorem st_astore_n {g : Gx} {Y : List Sh} {own : String} {cc : ByteArray} {nL : Nat} {ret : Option FieldType} {d : Nat} {Q : Option Value → St → Prop} {pc : Nat} {lv : List (Option Value)} {st : List Value} {σ : St} {j : Fin 4} {i : Nat} {x : Nat} (hc : cX g Y own cc nL ret d) (hd : decode cc pc = .ok (.astore_n j, 1)) (hi : (j : Nat) = i) (hn : i < nL) (hok : lvok lv i = true) (k : aW g Y nL Q (pc + 1) (lv.set i (some (.ref x))) st σ) : aW g Y nL Q pc lv (.ref x :: st) σ := by
  obtain ⟨p, l, e, R, s, m, args, below, meth, c, D, dA, ad⟩ := g
  obtain ⟨hx, hb, hml, hr, hlk, hown, hts, hK, hD, hR, hN⟩ := hc
  intro H locs ls hP hS hl
  exact lv_astore_n hx hb hd hi hl hn rfl (fun ls hl => k H locs ls hP hS (lvl_set1 hok hl))
theorem st_astore {g : Gx} {Y : List Sh} {own : String} {cc : ByteArray} {nL : Nat} {ret : Option FieldType} {d : Nat} {Q : Option Value → St → Prop} {pc : Nat} {lv : List (Option Value)} {st : List Value} {σ : St} {i : Nat} {x : Nat} (hc : cX g Y own cc nL ret d) (hd : decode cc pc = .ok (.astore i, 2)) (hn : i < nL) (hok : lvok lv i = true) (k : aW g Y nL Q (pc + 2) (lv.set i (some (.ref x))) st σ) : aW g Y nL Q pc lv (.ref x :: st) σ := by
  obtain ⟨p, l, e, R, s, m, args, below, meth, c, D, dA, ad⟩ := g
  obtain ⟨hx, hb, hml, hr, hlk, hown, hts, hK, hD, hR, hN⟩ := hc
  intro H locs ls hP hS hl
  exact lv_astore hx hb hd hl hn rfl (fun ls hl => k H locs ls hP hS (lvl_set1 hok hl))
theorem st_lstore_n {g : Gx} {Y : List Sh} {own : String} {cc : ByteArray} {nL : Nat} {ret : Option FieldType} {d : Nat} {Q : Option Value → St → Prop} {pc : Nat} {lv : List (Option Value)} {st : List Value} {σ : St} {j : Fin 4} {i : Nat} {x : Int64} (hc : cX g Y own cc nL ret d) (hd : decode cc pc = .ok (.lstore_n j, 1)) (hi : (j : Nat) = i) (hn : i + 1 < nL) (hok : lvok lv i = true) (k : aW g Y nL Q (pc + 1) ((lv.set i (some (.long x))).set (i + 1) none) st σ) : aW g Y nL Q pc lv (.long x :: st) σ := by
  obtain ⟨p, l, e, R, s, m, args, below, meth, c, D, dA, ad⟩ := g
  obtain ⟨hx, hb, hml, hr, hlk, hown, hts, hK, hD, hR, hN⟩ := hc
  intro H locs ls hP hS hl
  exact lv_lstore_n hx hb hd hi hl hn rfl (fun ls hl => k H locs ls hP hS (lvl_set2 hok hl))
theorem st_lstore {g : Gx} {Y : List Sh} {own : String} {cc : ByteArray} {nL : Nat} {ret : Option FieldType} {d : Nat} {Q : Option Value → St → Prop} {pc : Nat} {lv : List (Option Value)} {st : List Value} {σ : St} {i : Nat} {x : Int64} (hc : cX g Y own cc nL ret d) (hd : decode cc pc = .ok (.lstore i, 2)) (hn : i + 1 < nL) (hok : lvok lv i = true) (k : aW g Y nL Q (pc + 2) ((lv.set i (some (.long x))).set (i + 1) none) st σ) : aW g Y nL Q pc lv (.long x :: st) σ := by
  obtain ⟨p, l, e, R, s, m, args, below, meth, c, D, dA, ad⟩ := g
  obtain ⟨hx, hb, hml, hr, hlk, hown, hts, hK, hD, hR, hN⟩ := hc
  intro H locs ls hP hS hl
  exact lv_lstore hx hb hd hl hn rfl (fun ls hl => k H locs ls hP hS (lvl_set2 hok hl))
theorem st_iinc {g : Gx} {Y : List Sh} {own : String} {cc : ByteArray} {nL : Nat} {ret : Option FieldType} {d : Nat} {Q : Option Value → St → Prop} {pc : Nat} {lv : List (Option Value)} {st : List Value} {σ : St} {i : Nat} {n : Int} {x v : Int32} (hc : cX g Y own cc nL ret d) (hd : decode cc pc = .ok (.iinc i n, 3)) (hv : lv[i]? = some (some (.int x))) (he : x + Int32.ofInt n = v) (hn : i < nL) (hok : lvok lv i = true) (k : aW g Y nL Q (pc + 3) (lv.set i (some (.int v))) st σ) : aW g Y nL Q pc lv st σ := by
  obtain ⟨p, l, e, R, s, m, args, below, meth, c, D, dA, ad⟩ := g
  obtain ⟨hx, hb, hml, hr, hlk, hown, hts, hK, hD, hR, hN⟩ := hc
  intro H locs ls hP hS hl
  obtain ⟨j, hj⟩ := List.getElem?_of_mem ((lvl_mem (ad := ad) lv 0 (i, .int x)).mpr ⟨i, .int x, hv, by simp [cvv]⟩)
  exact lv_iinc hx hb hd hl hj he hn rfl (fun ls hl => k H locs ls hP hS (lvl_set1 (v := .int v) hok hl))
theorem st_iadd {g : Gx} {Y : List Sh} {own : String} {cc : ByteArray} {nL : Nat} {ret : Option FieldType} {d : Nat} {Q : Option Value → St → Prop} {pc : Nat} {lv : List (Option Value)} {st : List Value} {σ : St} {x y : Int32} (hc : cX g Y own cc nL ret d) (hd : decode cc pc = .ok (.iadd, 1))  (k : aW g Y nL Q (pc + 1) lv (.int (x + y) :: st) σ) : aW g Y nL Q pc lv (.int y :: .int x :: st) σ := by
  obtain ⟨p, l, e, R, s, m, args, below, meth, c, D, dA, ad⟩ := g
  obtain ⟨hx, hb, hml, hr, hlk, hown, hts, hK, hD, hR, hN⟩ := hc
  intro H locs ls hP hS hl
  exact lv_iadd hx hb hd (k H locs ls hP hS hl)
theorem st_isub {g : Gx} {Y : List Sh} {own : String} {cc : ByteArray} {nL : Nat} {ret : Option FieldType} {d : Nat} {Q : Option Value → St → Prop} {pc : Nat} {lv : List (Option Value)} {st : List Value} {σ : St} {x y : Int32} (hc : cX g Y own cc nL ret d) (hd : decode cc pc = .ok (.isub, 1))  (k : aW g Y nL Q (pc + 1) lv (.int (x - y) :: st) σ) : aW g Y nL Q pc lv (.int y :: .int x :: st) σ := by
  obtain ⟨p, l, e, R, s, m, args, below, meth, c, D, dA, ad⟩ := g
  obtain ⟨hx, hb, hml, hr, hlk, hown, hts, hK, hD, hR, hN⟩ := hc
  intro H locs ls hP hS hl
  exact lv_isub hx hb hd (k H locs ls hP hS hl)
theorem st_imul {g : Gx} {Y : List Sh} {own : String} {cc : ByteArray} {nL : Nat} {ret : Option FieldType} {d : Nat} {Q : Option Value → St → Prop} {pc : Nat} {lv : List (Option Value)} {st : List Value} {σ : St} {x y : Int32} (hc : cX g Y own cc nL ret d) (hd : decode cc pc = .ok (.imul, 1))  (k : aW g Y nL Q (pc + 1) lv (.int (x * y) :: st) σ) : aW g Y nL Q pc lv (.int y :: .int x :: st) σ := by
  obtain ⟨p, l, e, R, s, m, args, below, meth, c, D, dA, ad⟩ := g
  obtain ⟨hx, hb, hml, hr, hlk, hown, hts, hK, hD, hR, hN⟩ := hc
  intro H locs ls hP hS hl
  exact lv_imul hx hb hd (k H locs ls hP hS hl)
theorem st_iand {g : Gx} {Y : List Sh} {own : String} {cc : ByteArray} {nL : Nat} {ret : Option FieldType} {d : Nat} {Q : Option Value → St → Prop} {pc : Nat} {lv : List (Option Value)} {st : List Value} {σ : St} {x y : Int32} (hc : cX g Y own cc nL ret d) (hd : decode cc pc = .ok (.iand, 1))  (k : aW g Y nL Q (pc + 1) lv (.int (x &&& y) :: st) σ) : aW g Y nL Q pc lv (.int y :: .int x :: st) σ := by
  obtain ⟨p, l, e, R, s, m, args, below, meth, c, D, dA, ad⟩ := g
  obtain ⟨hx, hb, hml, hr, hlk, hown, hts, hK, hD, hR, hN⟩ := hc
  intro H locs ls hP hS hl
  exact lv_iand hx hb hd (k H locs ls hP hS hl)
theorem st_ior {g : Gx} {Y : List Sh} {own : String} {cc : ByteArray} {nL : Nat} {ret : Option FieldType} {d : Nat} {Q : Option Value → St → Prop} {pc : Nat} {lv : List (Option Value)} {st : List Value} {σ : St} {x y : Int32} (hc : cX g Y own cc nL ret d) (hd : decode cc pc = .ok (.ior, 1))  (k : aW g Y nL Q (pc + 1) lv (.int (x ||| y) :: st) σ) : aW g Y nL Q pc lv (.int y :: .int x :: st) σ := by
  obtain ⟨p, l, e, R, s, m, args, below, meth, c, D, dA, ad⟩ := g
  obtain ⟨hx, hb, hml, hr, hlk, hown, hts, hK, hD, hR, hN⟩ := hc
  intro H locs ls hP hS hl
  exact lv_ior hx hb hd (k H locs ls hP hS hl)
theorem st_ixor {g : Gx} {Y : List Sh} {own : String} {cc : ByteArray} {nL : Nat} {ret : Option FieldType} {d : Nat} {Q : Option Value → St → Prop} {pc : Nat} {lv : List (Option Value)} {st : List Value} {σ : St} {x y : Int32} (hc : cX g Y own cc nL ret d) (hd : decode cc pc = .ok (.ixor, 1))  (k : aW g Y nL Q (pc + 1) lv (.int (x ^^^ y) :: st) σ) : aW g Y nL Q pc lv (.int y :: .int x :: st) σ := by
  obtain ⟨p, l, e, R, s, m, args, below, meth, c, D, dA, ad⟩ := g
  obtain ⟨hx, hb, hml, hr, hlk, hown, hts, hK, hD, hR, hN⟩ := hc
  intro H locs ls hP hS hl
  exact lv_ixor hx hb hd (k H locs ls hP hS hl)
theorem st_ladd {g : Gx} {Y : List Sh} {own : String} {cc : ByteArray} {nL : Nat} {ret : Option FieldType} {d : Nat} {Q : Option Value → St → Prop} {pc : Nat} {lv : List (Option Value)} {st : List Value} {σ : St} {x y : Int64} (hc : cX g Y own cc nL ret d) (hd : decode cc pc = .ok (.ladd, 1))  (k : aW g Y nL Q (pc + 1) lv (.long (x + y) :: st) σ) : aW g Y nL Q pc lv (.long y :: .long x :: st) σ := by
  obtain ⟨p, l, e, R, s, m, args, below, meth, c, D, dA, ad⟩ := g
  obtain ⟨hx, hb, hml, hr, hlk, hown, hts, hK, hD, hR, hN⟩ := hc
  intro H locs ls hP hS hl
  exact lv_ladd hx hb hd (k H locs ls hP hS hl)
theorem st_lsub {g : Gx} {Y : List Sh} {own : String} {cc : ByteArray} {nL : Nat} {ret : Option FieldType} {d : Nat} {Q : Option Value → St → Prop} {pc : Nat} {lv : List (Option Value)} {st : List Value} {σ : St} {x y : Int64} (hc : cX g Y own cc nL ret d) (hd : decode cc pc = .ok (.lsub, 1))  (k : aW g Y nL Q (pc + 1) lv (.long (x - y) :: st) σ) : aW g Y nL Q pc lv (.long y :: .long x :: st) σ := by
  obtain ⟨p, l, e, R, s, m, args, below, meth, c, D, dA, ad⟩ := g
  obtain ⟨hx, hb, hml, hr, hlk, hown, hts, hK, hD, hR, hN⟩ := hc
  intro H locs ls hP hS hl
  exact lv_lsub hx hb hd (k H locs ls hP hS hl)
theorem st_lmul {g : Gx} {Y : List Sh} {own : String} {cc : ByteArray} {nL : Nat} {ret : Option FieldType} {d : Nat} {Q : Option Value → St → Prop} {pc : Nat} {lv : List (Option Value)} {st : List Value} {σ : St} {x y : Int64} (hc : cX g Y own cc nL ret d) (hd : decode cc pc = .ok (.lmul, 1))  (k : aW g Y nL Q (pc + 1) lv (.long (x * y) :: st) σ) : aW g Y nL Q pc lv (.long y :: .long x :: st) σ := by
  obtain ⟨p, l, e, R, s, m, args, below, meth, c, D, dA, ad⟩ := g
  obtain ⟨hx, hb, hml, hr, hlk, hown, hts, hK, hD, hR, hN⟩ := hc
  intro H locs ls hP hS hl
  exact lv_lmul hx hb hd (k H locs ls hP hS hl)
theorem st_land {g : Gx} {Y : List Sh} {own : String} {cc : ByteArray} {nL : Nat} {ret : Option FieldType} {d : Nat} {Q : Option Value → St → Prop} {pc : Nat} {lv : List (Option Value)} {st : List Value} {σ : St} {x y : Int64} (hc : cX g Y own cc nL ret d) (hd : decode cc pc = .ok (.land, 1))  (k : aW g Y nL Q (pc + 1) lv (.long (x &&& y) :: st) σ) : aW g Y nL Q pc lv (.long y :: .long x :: st) σ := by
  obtain ⟨p, l, e, R, s, m, args, below, meth, c, D, dA, ad⟩ := g
  obtain ⟨hx, hb, hml, hr, hlk, hown, hts, hK, hD, hR, hN⟩ := hc
  intro H locs ls hP hS hl
  exact lv_land hx hb hd (k H locs ls hP hS hl)
theorem st_lor {g : Gx} {Y : List Sh} {own : String} {cc : ByteArray} {nL : Nat} {ret : Option FieldType} {d : Nat} {Q : Option Value → St → Prop} {pc : Nat} {lv : List (Option Value)} {st : List Value} {σ : St} {x y : Int64} (hc : cX g Y own cc nL ret d) (hd : decode cc pc = .ok (.lor, 1))  (k : aW g Y nL Q (pc + 1) lv (.long (x ||| y) :: st) σ) : aW g Y nL Q pc lv (.long y :: .long x :: st) σ := by
  obtain ⟨p, l, e, R, s, m, args, below, meth, c, D, dA, ad⟩ := g
  obtain ⟨hx, hb, hml, hr, hlk, hown, hts, hK, hD, hR, hN⟩ := hc
  intro H locs ls hP hS hl
  exact lv_lor hx hb hd (k H locs ls hP hS hl)
theorem st_lxor {g : Gx} {Y : List Sh} {own : String} {cc : ByteArray} {nL : Nat} {ret : Option FieldType} {d : Nat} {Q : Option Value → St → Prop} {pc : Nat} {lv : List (Option Value)} {st : List Value} {σ : St} {x y : Int64} (hc : cX g Y own cc nL ret d) (hd : decode cc pc = .ok (.lxor, 1))  (k : aW g Y nL Q (pc + 1) lv (.long (x ^^^ y) :: st) σ) : aW g Y nL Q pc lv (.long y :: .long x :: st) σ := by
  obtain ⟨p, l, e, R, s, m, args, below, meth, c, D, dA, ad⟩ := g
  obtain ⟨hx, hb, hml, hr, hlk, hown, hts, hK, hD, hR, hN⟩ := hc
  intro H locs ls hP hS hl
  exact lv_lxor hx hb hd (k H locs ls hP hS hl)
theorem st_idiv {g : Gx} {Y : List Sh} {own : String} {cc : ByteArray} {nL : Nat} {ret : Option FieldType} {d : Nat} {Q : Option Value → St → Prop} {pc : Nat} {lv : List (Option Value)} {st : List Value} {σ : St} {x y : Int32} (hc : cX g Y own cc nL ret d) (hd : decode cc pc = .ok (.idiv, 1)) (hne : ¬ y = 0) (k : aW g Y nL Q (pc + 1) lv (.int (x / y) :: st) σ) : aW g Y nL Q pc lv (.int y :: .int x :: st) σ := by
  obtain ⟨p, l, e, R, s, m, args, below, meth, c, D, dA, ad⟩ := g
  obtain ⟨hx, hb, hml, hr, hlk, hown, hts, hK, hD, hR, hN⟩ := hc
  intro H locs ls hP hS hl
  exact lv_idiv hx hb hd hne (k H locs ls hP hS hl)
theorem st_irem {g : Gx} {Y : List Sh} {own : String} {cc : ByteArray} {nL : Nat} {ret : Option FieldType} {d : Nat} {Q : Option Value → St → Prop} {pc : Nat} {lv : List (Option Value)} {st : List Value} {σ : St} {x y : Int32} (hc : cX g Y own cc nL ret d) (hd : decode cc pc = .ok (.irem, 1)) (hne : ¬ y = 0) (k : aW g Y nL Q (pc + 1) lv (.int (x - x / y * y) :: st) σ) : aW g Y nL Q pc lv (.int y :: .int x :: st) σ := by
  obtain ⟨p, l, e, R, s, m, args, below, meth, c, D, dA, ad⟩ := g
  obtain ⟨hx, hb, hml, hr, hlk, hown, hts, hK, hD, hR, hN⟩ := hc
  intro H locs ls hP hS hl
  exact lv_irem hx hb hd hne (k H locs ls hP hS hl)
theorem st_ineg {g : Gx} {Y : List Sh} {own : String} {cc : ByteArray} {nL : Nat} {ret : Option FieldType} {d : Nat} {Q : Option Value → St → Prop} {pc : Nat} {lv : List (Option Value)} {st : List Value} {σ : St} {x : Int32} (hc : cX g Y own cc nL ret d) (hd : decode cc pc = .ok (.ineg, 1))  (k : aW g Y nL Q (pc + 1) lv (.int (-x) :: st) σ) : aW g Y nL Q pc lv (.int x :: st) σ := by
  obtain ⟨p, l, e, R, s, m, args, below, meth, c, D, dA, ad⟩ := g
  obtain ⟨hx, hb, hml, hr, hlk, hown, hts, hK, hD, hR, hN⟩ := hc
  intro H locs ls hP hS hl
  exact lv_ineg hx hb hd (k H locs ls hP hS hl)
theorem st_ishl {g : Gx} {Y : List Sh} {own : String} {cc : ByteArray} {nL : Nat} {ret : Option FieldType} {d : Nat} {Q : Option Value → St → Prop} {pc : Nat} {lv : List (Option Value)} {st : List Value} {σ : St} {x y : Int32} (hc : cX g Y own cc nL ret d) (hd : decode cc pc = .ok (.ishl, 1))  (k : aW g Y nL Q (pc + 1) lv (.int (x <<< (y &&& 31)) :: st) σ) : aW g Y nL Q pc lv (.int y :: .int x :: st) σ := by
  obtain ⟨p, l, e, R, s, m, args, below, meth, c, D, dA, ad⟩ := g
  obtain ⟨hx, hb, hml, hr, hlk, hown, hts, hK, hD, hR, hN⟩ := hc
  intro H locs ls hP hS hl
  exact lv_ishl hx hb hd (k H locs ls hP hS hl)
theorem st_ishr {g : Gx} {Y : List Sh} {own : String} {cc : ByteArray} {nL : Nat} {ret : Option FieldType} {d : Nat} {Q : Option Value → St → Prop} {pc : Nat} {lv : List (Option Value)} {st : List Value} {σ : St} {x y : Int32} (hc : cX g Y own cc nL ret d) (hd : decode cc pc = .ok (.ishr, 1))  (k : aW g Y nL Q (pc + 1) lv (.int (x >>> (y &&& 31)) :: st) σ) : aW g Y nL Q pc lv (.int y :: .int x :: st) σ := by
  obtain ⟨p, l, e, R, s, m, args, below, meth, c, D, dA, ad⟩ := g
  obtain ⟨hx, hb, hml, hr, hlk, hown, hts, hK, hD, hR, hN⟩ := hc
  intro H locs ls hP hS hl
  exact lv_ishr hx hb hd (k H locs ls hP hS hl)
theorem st_iushr {g : Gx} {Y : List Sh} {own : String} {cc : ByteArray} {nL : Nat} {ret : Option FieldType} {d : Nat} {Q : Option Value → St → Prop} {pc : Nat} {lv : List (Option Value)} {st : List Value} {σ : St} {x y : Int32} (hc : cX g Y own cc nL ret d) (hd : decode cc pc = .ok (.iushr, 1))  (k : aW g Y nL Q (pc + 1) lv (.int ((x.toUInt32 >>> (y.toUInt32 &&& Int32.toUInt32 31)).toInt32) :: st) σ) : aW g Y nL Q pc lv (.int y :: .int x :: st) σ := by
  obtain ⟨p, l, e, R, s, m, args, below, meth, c, D, dA, ad⟩ := g
  obtain ⟨hx, hb, hml, hr, hlk, hown, hts, hK, hD, hR, hN⟩ := hc
  intro H locs ls hP hS hl
  exact lv_iushr hx hb hd rfl (k H locs ls hP hS hl)
theorem st_lushr {g : Gx} {Y : List Sh} {own : String} {cc : ByteArray} {nL : Nat} {ret : Option FieldType} {d : Nat} {Q : Option Value → St → Prop} {pc : Nat} {lv : List (Option Value)} {st : List Value} {σ : St} {x : Int64} {y : Int32} (hc : cX g Y own cc nL ret d) (hd : decode cc pc = .ok (.lushr, 1))  (k : aW g Y nL Q (pc + 1) lv (.long ((x.toUInt64 >>> (y.toInt64.toUInt64 &&& Int64.toUInt64 63)).toInt64) :: st) σ) : aW g Y nL Q pc lv (.int y :: .long x :: st) σ := by
  obtain ⟨p, l, e, R, s, m, args, below, meth, c, D, dA, ad⟩ := g
  obtain ⟨hx, hb, hml, hr, hlk, hown, hts, hK, hD, hR, hN⟩ := hc
  intro H locs ls hP hS hl
  exact lv_lushr hx hb hd rfl (k H locs ls hP hS hl)
theorem st_lshl {g : Gx} {Y : List Sh} {own : String} {cc : ByteArray} {nL : Nat} {ret : Option FieldType} {d : Nat} {Q : Option Value → St → Prop} {pc : Nat} {lv : List (Option Value)} {st : List Value} {σ : St} {x : Int64} {y : Int32} (hc : cX g Y own cc nL ret d) (hd : decode cc pc = .ok (.lshl, 1))  (k : aW g Y nL Q (pc + 1) lv (.long (x <<< (y.toInt64 &&& 63)) :: st) σ) : aW g Y nL Q pc lv (.int y :: .long x :: st) σ := by
  obtain ⟨p, l, e, R, s, m, args, below, meth, c, D, dA, ad⟩ := g
  obtain ⟨hx, hb, hml, hr, hlk, hown, hts, hK, hD, hR, hN⟩ := hc
  intro H locs ls hP hS hl
  exact lv_lshl hx hb hd rfl (k H locs ls hP hS hl)
theorem st_i2l {g : Gx} {Y : List Sh} {own : String} {cc : ByteArray} {nL : Nat} {ret : Option FieldType} {d : Nat} {Q : Option Value → St → Prop} {pc : Nat} {lv : List (Option Value)} {st : List Value} {σ : St} {x : Int32} (hc : cX g Y own cc nL ret d) (hd : decode cc pc = .ok (.i2l, 1))  (k : aW g Y nL Q (pc + 1) lv (.long x.toInt64 :: st) σ) : aW g Y nL Q pc lv (.int x :: st) σ := by
  obtain ⟨p, l, e, R, s, m, args, below, meth, c, D, dA, ad⟩ := g
  obtain ⟨hx, hb, hml, hr, hlk, hown, hts, hK, hD, hR, hN⟩ := hc
  intro H locs ls hP hS hl
  exact lv_i2l hx hb hd rfl (k H locs ls hP hS hl)
theorem st_l2i {g : Gx} {Y : List Sh} {own : String} {cc : ByteArray} {nL : Nat} {ret : Option FieldType} {d : Nat} {Q : Option Value → St → Prop} {pc : Nat} {lv : List (Option Value)} {st : List Value} {σ : St} {x : Int64} (hc : cX g Y own cc nL ret d) (hd : decode cc pc = .ok (.l2i, 1))  (k : aW g Y nL Q (pc + 1) lv (.int x.toInt32 :: st) σ) : aW g Y nL Q pc lv (.long x :: st) σ := by
  obtain ⟨p, l, e, R, s, m, args, below, meth, c, D, dA, ad⟩ := g
  obtain ⟨hx, hb, hml, hr, hlk, hown, hts, hK, hD, hR, hN⟩ := hc
  intro H locs ls hP hS hl
  exact lv_l2i hx hb hd rfl (k H locs ls hP hS hl)
theorem st_i2b {g : Gx} {Y : List Sh} {own : String} {cc : ByteArray} {nL : Nat} {ret : Option FieldType} {d : Nat} {Q : Option Value → St → Prop} {pc : Nat} {lv : List (Option Value)} {st : List Value} {σ : St} {x : Int32} (hc : cX g Y own cc nL ret d) (hd : decode cc pc = .ok (.i2b, 1))  (k : aW g Y nL Q (pc + 1) lv (.int x.toInt8.toInt32 :: st) σ) : aW g Y nL Q pc lv (.int x :: st) σ := by
  obtain ⟨p, l, e, R, s, m, args, below, meth, c, D, dA, ad⟩ := g
  obtain ⟨hx, hb, hml, hr, hlk, hown, hts, hK, hD, hR, hN⟩ := hc
  intro H locs ls hP hS hl
  exact lv_i2b hx hb hd rfl (k H locs ls hP hS hl)
theorem st_i2s {g : Gx} {Y : List Sh} {own : String} {cc : ByteArray} {nL : Nat} {ret : Option FieldType} {d : Nat} {Q : Option Value → St → Prop} {pc : Nat} {lv : List (Option Value)} {st : List Value} {σ : St} {x : Int32} (hc : cX g Y own cc nL ret d) (hd : decode cc pc = .ok (.i2s, 1))  (k : aW g Y nL Q (pc + 1) lv (.int x.toInt16.toInt32 :: st) σ) : aW g Y nL Q pc lv (.int x :: st) σ := by
  obtain ⟨p, l, e, R, s, m, args, below, meth, c, D, dA, ad⟩ := g
  obtain ⟨hx, hb, hml, hr, hlk, hown, hts, hK, hD, hR, hN⟩ := hc
  intro H locs ls hP hS hl
  exact lv_i2s hx hb hd rfl (k H locs ls hP hS hl)
theorem st_i2c {g : Gx} {Y : List Sh} {own : String} {cc : ByteArray} {nL : Nat} {ret : Option FieldType} {d : Nat} {Q : Option Value → St → Prop} {pc : Nat} {lv : List (Option Value)} {st : List Value} {σ : St} {x : Int32} (hc : cX g Y own cc nL ret d) (hd : decode cc pc = .ok (.i2c, 1))  (k : aW g Y nL Q (pc + 1) lv (.int (x.toUInt32 % 65536).toInt32 :: st) σ) : aW g Y nL Q pc lv (.int x :: st) σ := by
  obtain ⟨p, l, e, R, s, m, args, below, meth, c, D, dA, ad⟩ := g
  obtain ⟨hx, hb, hml, hr, hlk, hown, hts, hK, hD, hR, hN⟩ := hc
  intro H locs ls hP hS hl
  exact lv_i2c hx hb hd rfl (k H locs ls hP hS hl)
theorem st_lcmp {g : Gx} {Y : List Sh} {own : String} {cc : ByteArray} {nL : Nat} {ret : Option FieldType} {d : Nat} {Q : Option Value → St → Prop} {pc : Nat} {lv : List (Option Value)} {st : List Value} {σ : St} {x y : Int64} (hc : cX g Y own cc nL ret d) (hd : decode cc pc = .ok (.lcmp, 1))  (k : aW g Y nL Q (pc + 1) lv (.int (lg_cmp x y) :: st) σ) : aW g Y nL Q pc lv (.long y :: .long x :: st) σ := by
  obtain ⟨p, l, e, R, s, m, args, below, meth, c, D, dA, ad⟩ := g
  obtain ⟨hx, hb, hml, hr, hlk, hown, hts, hK, hD, hR, hN⟩ := hc
  intro H locs ls hP hS hl
  exact W.lcmp hx hb hd (k H locs ls hP hS hl)
theorem st_dup {g : Gx} {Y : List Sh} {own : String} {cc : ByteArray} {nL : Nat} {ret : Option FieldType} {d : Nat} {Q : Option Value → St → Prop} {pc : Nat} {lv : List (Option Value)} {st : List Value} {σ : St} {a : Value} (hc : cX g Y own cc nL ret d) (hd : decode cc pc = .ok (.dup, 1)) (ha : a.category = 1) (k : aW g Y nL Q (pc + 1) lv (a :: a :: st) σ) : aW g Y nL Q pc lv (a :: st) σ := by
  obtain ⟨p, l, e, R, s, m, args, below, meth, c, D, dA, ad⟩ := g
  obtain ⟨hx, hb, hml, hr, hlk, hown, hts, hK, hD, hR, hN⟩ := hc
  intro H locs ls hP hS hl
  exact lv_dup hx hb hd ((cvv_cat ad a).trans ha) (k H locs ls hP hS hl)
theorem st_pop {g : Gx} {Y : List Sh} {own : String} {cc : ByteArray} {nL : Nat} {ret : Option FieldType} {d : Nat} {Q : Option Value → St → Prop} {pc : Nat} {lv : List (Option Value)} {st : List Value} {σ : St} {a : Value} (hc : cX g Y own cc nL ret d) (hd : decode cc pc = .ok (.pop, 1)) (ha : a.category = 1) (k : aW g Y nL Q (pc + 1) lv st σ) : aW g Y nL Q pc lv (a :: st) σ := by
  obtain ⟨p, l, e, R, s, m, args, below, meth, c, D, dA, ad⟩ := g
  obtain ⟨hx, hb, hml, hr, hlk, hown, hts, hK, hD, hR, hN⟩ := hc
  intro H locs ls hP hS hl
  exact lv_pop hx hb hd ((cvv_cat ad a).trans ha) (k H locs ls hP hS hl)
theorem st_dup_x1 {g : Gx} {Y : List Sh} {own : String} {cc : ByteArray} {nL : Nat} {ret : Option FieldType} {d : Nat} {Q : Option Value → St → Prop} {pc : Nat} {lv : List (Option Value)} {st : List Value} {σ : St} {a b : Value} (hc : cX g Y own cc nL ret d) (hd : decode cc pc = .ok (.dup_x1, 1)) (ha : a.category = 1) (hb2 : b.category = 1) (k : aW g Y nL Q (pc + 1) lv (a :: b :: a :: st) σ) : aW g Y nL Q pc lv (a :: b :: st) σ := by
  obtain ⟨p, l, e, R, s, m, args, below, meth, c, D, dA, ad⟩ := g
  obtain ⟨hx, hb, hml, hr, hlk, hown, hts, hK, hD, hR, hN⟩ := hc
  intro H locs ls hP hS hl
  exact lv_dup_x1 hx hb hd ((cvv_cat ad a).trans ha) ((cvv_cat ad b).trans hb2) (k H locs ls hP hS hl)
theorem st_dup_x2 {g : Gx} {Y : List Sh} {own : String} {cc : ByteArray} {nL : Nat} {ret : Option FieldType} {d : Nat} {Q : Option Value → St → Prop} {pc : Nat} {lv : List (Option Value)} {st : List Value} {σ : St} {a b c2 : Value} (hc : cX g Y own cc nL ret d) (hd : decode cc pc = .ok (.dup_x2, 1)) (ha : a.category = 1) (hb2 : b.category = 1) (hc2 : c2.category = 1) (k : aW g Y nL Q (pc + 1) lv (a :: b :: c2 :: a :: st) σ) : aW g Y nL Q pc lv (a :: b :: c2 :: st) σ := by
  obtain ⟨p, l, e, R, s, m, args, below, meth, c, D, dA, ad⟩ := g
  obtain ⟨hx, hb, hml, hr, hlk, hown, hts, hK, hD, hR, hN⟩ := hc
  intro H locs ls hP hS hl
  exact lv_dup_x2 hx hb hd ((cvv_cat ad a).trans ha) ((cvv_cat ad b).trans hb2) ((cvv_cat ad c2).trans hc2) (k H locs ls hP hS hl)
theorem st_dup2 {g : Gx} {Y : List Sh} {own : String} {cc : ByteArray} {nL : Nat} {ret : Option FieldType} {d : Nat} {Q : Option Value → St → Prop} {pc : Nat} {lv : List (Option Value)} {st : List Value} {σ : St} {a b : Value} (hc : cX g Y own cc nL ret d) (hd : decode cc pc = .ok (.dup2, 1)) (ha : a.category = 1) (hb2 : b.category = 1) (k : aW g Y nL Q (pc + 1) lv (a :: b :: a :: b :: st) σ) : aW g Y nL Q pc lv (a :: b :: st) σ := by
  obtain ⟨p, l, e, R, s, m, args, below, meth, c, D, dA, ad⟩ := g
  obtain ⟨hx, hb, hml, hr, hlk, hown, hts, hK, hD, hR, hN⟩ := hc
  intro H locs ls hP hS hl
  exact lv_dup2_11 hx hb hd ((cvv_cat ad a).trans ha) ((cvv_cat ad b).trans hb2) (k H locs ls hP hS hl)
theorem st_if_eq {g : Gx} {Y : List Sh} {own : String} {cc : ByteArray} {nL : Nat} {ret : Option FieldType} {d : Nat} {Q : Option Value → St → Prop} {pc : Nat} {lv : List (Option Value)} {st : List Value} {σ : St} {x : Int32} {off : Int} {tgt : Nat} (hc : cX g Y own cc nL ret d) (hd : decode cc pc = .ok (.ifCond .eq off, 3)) (ht : (pc : Int) + off = (tgt : Int)) (kt : x = 0 → aW g Y nL Q tgt lv st σ) (kf : ¬ x = 0 → aW g Y nL Q (pc + 3) lv st σ) : aW g Y nL Q pc lv (.int x :: st) σ := by
  obtain ⟨p, l, e, R, s, m, args, below, meth, c, D, dA, ad⟩ := g
  obtain ⟨hx, hb, hml, hr, hlk, hown, hts, hK, hD, hR, hN⟩ := hc
  intro H locs ls hP hS hl
  exact lv_if_eq hx hb hd ht (fun h => kt h H locs ls hP hS hl) (fun h => kf h H locs ls hP hS hl)
theorem st_icmp_eq {g : Gx} {Y : List Sh} {own : String} {cc : ByteArray} {nL : Nat} {ret : Option FieldType} {d : Nat} {Q : Option Value → St → Prop} {pc : Nat} {lv : List (Option Value)} {st : List Value} {σ : St} {x y : Int32} {off : Int} {tgt : Nat} (hc : cX g Y own cc nL ret d) (hd : decode cc pc = .ok (.if_icmp .eq off, 3)) (ht : (pc : Int) + off = (tgt : Int)) (kt : x = y → aW g Y nL Q tgt lv st σ) (kf : ¬ x = y → aW g Y nL Q (pc + 3) lv st σ) : aW g Y nL Q pc lv (.int y :: .int x :: st) σ := by
  obtain ⟨p, l, e, R, s, m, args, below, meth, c, D, dA, ad⟩ := g
  obtain ⟨hx, hb, hml, hr, hlk, hown, hts, hK, hD, hR, hN⟩ := hc
  intro H locs ls hP hS hl
  exact lv_icmp_eq hx hb hd ht (fun h => kt h H locs ls hP hS hl) (fun h => kf h H locs ls hP hS hl)
theorem st_if_ne {g : Gx} {Y : List Sh} {own : String} {cc : ByteArray} {nL : Nat} {ret : Option FieldType} {d : Nat} {Q : Option Value → St → Prop} {pc : Nat} {lv : List (Option Value)} {st : List Value} {σ : St} {x : Int32} {off : Int} {tgt : Nat} (hc : cX g Y own cc nL ret d) (hd : decode cc pc = .ok (.ifCond .ne off, 3)) (ht : (pc : Int) + off = (tgt : Int)) (kt : ¬ x = 0 → aW g Y nL Q tgt lv st σ) (kf : x = 0 → aW g Y nL Q (pc + 3) lv st σ) : aW g Y nL Q pc lv (.int x :: st) σ := by
  obtain ⟨p, l, e, R, s, m, args, below, meth, c, D, dA, ad⟩ := g
  obtain ⟨hx, hb, hml, hr, hlk, hown, hts, hK, hD, hR, hN⟩ := hc
  intro H locs ls hP hS hl
  exact lv_if_ne hx hb hd ht (fun h => kt h H locs ls hP hS hl) (fun h => kf (by simpa using h) H locs ls hP hS hl)
theorem st_icmp_ne {g : Gx} {Y : List Sh} {own : String} {cc : ByteArray} {nL : Nat} {ret : Option FieldType} {d : Nat} {Q : Option Value → St → Prop} {pc : Nat} {lv : List (Option Value)} {st : List Value} {σ : St} {x y : Int32} {off : Int} {tgt : Nat} (hc : cX g Y own cc nL ret d) (hd : decode cc pc = .ok (.if_icmp .ne off, 3)) (ht : (pc : Int) + off = (tgt : Int)) (kt : ¬ x = y → aW g Y nL Q tgt lv st σ) (kf : x = y → aW g Y nL Q (pc + 3) lv st σ) : aW g Y nL Q pc lv (.int y :: .int x :: st) σ := by
  obtain ⟨p, l, e, R, s, m, args, below, meth, c, D, dA, ad⟩ := g
  obtain ⟨hx, hb, hml, hr, hlk, hown, hts, hK, hD, hR, hN⟩ := hc
  intro H locs ls hP hS hl
  exact lv_icmp_ne hx hb hd ht (fun h => kt h H locs ls hP hS hl) (fun h => kf (by simpa using h) H locs ls hP hS hl)
theorem st_if_lt {g : Gx} {Y : List Sh} {own : String} {cc : ByteArray} {nL : Nat} {ret : Option FieldType} {d : Nat} {Q : Option Value → St → Prop} {pc : Nat} {lv : List (Option Value)} {st : List Value} {σ : St} {x : Int32} {off : Int} {tgt : Nat} (hc : cX g Y own cc nL ret d) (hd : decode cc pc = .ok (.ifCond .lt off, 3)) (ht : (pc : Int) + off = (tgt : Int)) (kt : x < 0 → aW g Y nL Q tgt lv st σ) (kf : ¬ x < 0 → aW g Y nL Q (pc + 3) lv st σ) : aW g Y nL Q pc lv (.int x :: st) σ := by
  obtain ⟨p, l, e, R, s, m, args, below, meth, c, D, dA, ad⟩ := g
  obtain ⟨hx, hb, hml, hr, hlk, hown, hts, hK, hD, hR, hN⟩ := hc
  intro H locs ls hP hS hl
  exact lv_if_lt hx hb hd ht (fun h => kt h H locs ls hP hS hl) (fun h => kf h H locs ls hP hS hl)
theorem st_icmp_lt {g : Gx} {Y : List Sh} {own : String} {cc : ByteArray} {nL : Nat} {ret : Option FieldType} {d : Nat} {Q : Option Value → St → Prop} {pc : Nat} {lv : List (Option Value)} {st : List Value} {σ : St} {x y : Int32} {off : Int} {tgt : Nat} (hc : cX g Y own cc nL ret d) (hd : decode cc pc = .ok (.if_icmp .lt off, 3)) (ht : (pc : Int) + off = (tgt : Int)) (kt : x < y → aW g Y nL Q tgt lv st σ) (kf : ¬ x < y → aW g Y nL Q (pc + 3) lv st σ) : aW g Y nL Q pc lv (.int y :: .int x :: st) σ := by
  obtain ⟨p, l, e, R, s, m, args, below, meth, c, D, dA, ad⟩ := g
  obtain ⟨hx, hb, hml, hr, hlk, hown, hts, hK, hD, hR, hN⟩ := hc
  intro H locs ls hP hS hl
  exact lv_icmp_lt hx hb hd ht (fun h => kt h H locs ls hP hS hl) (fun h => kf h H locs ls hP hS hl)
theorem st_if_ge {g : Gx} {Y : List Sh} {own : String} {cc : ByteArray} {nL : Nat} {ret : Option FieldType} {d : Nat} {Q : Option Value → St → Prop} {pc : Nat} {lv : List (Option Value)} {st : List Value} {σ : St} {x : Int32} {off : Int} {tgt : Nat} (hc : cX g Y own cc nL ret d) (hd : decode cc pc = .ok (.ifCond .ge off, 3)) (ht : (pc : Int) + off = (tgt : Int)) (kt : 0 ≤ x → aW g Y nL Q tgt lv st σ) (kf : ¬ 0 ≤ x → aW g Y nL Q (pc + 3) lv st σ) : aW g Y nL Q pc lv (.int x :: st) σ := by
  obtain ⟨p, l, e, R, s, m, args, below, meth, c, D, dA, ad⟩ := g
  obtain ⟨hx, hb, hml, hr, hlk, hown, hts, hK, hD, hR, hN⟩ := hc
  intro H locs ls hP hS hl
  exact lv_if_ge hx hb hd ht (fun h => kt h H locs ls hP hS hl) (fun h => kf h H locs ls hP hS hl)
theorem st_icmp_ge {g : Gx} {Y : List Sh} {own : String} {cc : ByteArray} {nL : Nat} {ret : Option FieldType} {d : Nat} {Q : Option Value → St → Prop} {pc : Nat} {lv : List (Option Value)} {st : List Value} {σ : St} {x y : Int32} {off : Int} {tgt : Nat} (hc : cX g Y own cc nL ret d) (hd : decode cc pc = .ok (.if_icmp .ge off, 3)) (ht : (pc : Int) + off = (tgt : Int)) (kt : y ≤ x → aW g Y nL Q tgt lv st σ) (kf : ¬ y ≤ x → aW g Y nL Q (pc + 3) lv st σ) : aW g Y nL Q pc lv (.int y :: .int x :: st) σ := by
  obtain ⟨p, l, e, R, s, m, args, below, meth, c, D, dA, ad⟩ := g
  obtain ⟨hx, hb, hml, hr, hlk, hown, hts, hK, hD, hR, hN⟩ := hc
  intro H locs ls hP hS hl
  exact lv_icmp_ge hx hb hd ht (fun h => kt h H locs ls hP hS hl) (fun h => kf h H locs ls hP hS hl)
theorem st_if_gt {g : Gx} {Y : List Sh} {own : String} {cc : ByteArray} {nL : Nat} {ret : Option FieldType} {d : Nat} {Q : Option Value → St → Prop} {pc : Nat} {lv : List (Option Value)} {st : List Value} {σ : St} {x : Int32} {off : Int} {tgt : Nat} (hc : cX g Y own cc nL ret d) (hd : decode cc pc = .ok (.ifCond .gt off, 3)) (ht : (pc : Int) + off = (tgt : Int)) (kt : 0 < x → aW g Y nL Q tgt lv st σ) (kf : ¬ 0 < x → aW g Y nL Q (pc + 3) lv st σ) : aW g Y nL Q pc lv (.int x :: st) σ := by
  obtain ⟨p, l, e, R, s, m, args, below, meth, c, D, dA, ad⟩ := g
  obtain ⟨hx, hb, hml, hr, hlk, hown, hts, hK, hD, hR, hN⟩ := hc
  intro H locs ls hP hS hl
  exact lv_if_gt hx hb hd ht (fun h => kt h H locs ls hP hS hl) (fun h => kf h H locs ls hP hS hl)
theorem st_icmp_gt {g : Gx} {Y : List Sh} {own : String} {cc : ByteArray} {nL : Nat} {ret : Option FieldType} {d : Nat} {Q : Option Value → St → Prop} {pc : Nat} {lv : List (Option Value)} {st : List Value} {σ : St} {x y : Int32} {off : Int} {tgt : Nat} (hc : cX g Y own cc nL ret d) (hd : decode cc pc = .ok (.if_icmp .gt off, 3)) (ht : (pc : Int) + off = (tgt : Int)) (kt : y < x → aW g Y nL Q tgt lv st σ) (kf : ¬ y < x → aW g Y nL Q (pc + 3) lv st σ) : aW g Y nL Q pc lv (.int y :: .int x :: st) σ := by
  obtain ⟨p, l, e, R, s, m, args, below, meth, c, D, dA, ad⟩ := g
  obtain ⟨hx, hb, hml, hr, hlk, hown, hts, hK, hD, hR, hN⟩ := hc
  intro H locs ls hP hS hl
  exact lv_icmp_gt hx hb hd ht (fun h => kt h H locs ls hP hS hl) (fun h => kf h H locs ls hP hS hl)
theorem st_if_le {g : Gx} {Y : List Sh} {own : String} {cc : ByteArray} {nL : Nat} {ret : Option FieldType} {d : Nat} {Q : Option Value → St → Prop} {pc : Nat} {lv : List (Option Value)} {st : List Value} {σ : St} {x : Int32} {off : Int} {tgt : Nat} (hc : cX g Y own cc nL ret d) (hd : decode cc pc = .ok (.ifCond .le off, 3)) (ht : (pc : Int) + off = (tgt : Int)) (kt : x ≤ 0 → aW g Y nL Q tgt lv st σ) (kf : ¬ x ≤ 0 → aW g Y nL Q (pc + 3) lv st σ) : aW g Y nL Q pc lv (.int x :: st) σ := by
  obtain ⟨p, l, e, R, s, m, args, below, meth, c, D, dA, ad⟩ := g
  obtain ⟨hx, hb, hml, hr, hlk, hown, hts, hK, hD, hR, hN⟩ := hc
  intro H locs ls hP hS hl
  exact lv_if_le hx hb hd ht (fun h => kt h H locs ls hP hS hl) (fun h => kf h H locs ls hP hS hl)
theorem st_icmp_le {g : Gx} {Y : List Sh} {own : String} {cc : ByteArray} {nL : Nat} {ret : Option FieldType} {d : Nat} {Q : Option Value → St → Prop} {pc : Nat} {lv : List (Option Value)} {st : List Value} {σ : St} {x y : Int32} {off : Int} {tgt : Nat} (hc : cX g Y own cc nL ret d) (hd : decode cc pc = .ok (.if_icmp .le off, 3)) (ht : (pc : Int) + off = (tgt : Int)) (kt : x ≤ y → aW g Y nL Q tgt lv st σ) (kf : ¬ x ≤ y → aW g Y nL Q (pc + 3) lv st σ) : aW g Y nL Q pc lv (.int y :: .int x :: st) σ := by
  obtain ⟨p, l, e, R, s, m, args, below, meth, c, D, dA, ad⟩ := g
  obtain ⟨hx, hb, hml, hr, hlk, hown, hts, hK, hD, hR, hN⟩ := hc
  intro H locs ls hP hS hl
  exact lv_icmp_le hx hb hd ht (fun h => kt h H locs ls hP hS hl) (fun h => kf h H locs ls hP hS hl)
theorem st_goto {g : Gx} {Y : List Sh} {own : String} {cc : ByteArray} {nL : Nat} {ret : Option FieldType} {d : Nat} {Q : Option Value → St → Prop} {pc : Nat} {lv : List (Option Value)} {st : List Value} {σ : St} {off : Int} {tgt : Nat} (hc : cX g Y own cc nL ret d) (hd : decode cc pc = .ok (.goto off, 3)) (ht : (pc : Int) + off = (tgt : Int)) (k : aW g Y nL Q (tgt) lv st σ) : aW g Y nL Q pc lv st σ := by
  obtain ⟨p, l, e, R, s, m, args, below, meth, c, D, dA, ad⟩ := g
  obtain ⟨hx, hb, hml, hr, hlk, hown, hts, hK, hD, hR, hN⟩ := hc
  intro H locs ls hP hS hl
  exact lv_goto hx hb hd ht (k H locs ls hP hS hl)
theorem st_tableIn {g : Gx} {Y : List Sh} {own : String} {cc : ByteArray} {nL : Nat} {ret : Option FieldType} {d : Nat} {Q : Option Value → St → Prop} {pc : Nat} {lv : List (Option Value)} {st : List Value} {σ : St} {df lo hi : Int} {offs : Array Int} {ln : Nat} {x : Int32} {off : Int} {tgt : Nat} (hc : cX g Y own cc nL ret d) (hd : decode cc pc = .ok (.tableswitch df lo hi offs, ln)) (h1 : ¬ x.toInt < lo) (h2 : ¬ hi < x.toInt) (ho : offs[(x.toInt - lo).toNat]? = some off) (ht : (pc : Int) + off = (tgt : Int)) (k : aW g Y nL Q (tgt) lv st σ) : aW g Y nL Q pc lv (.int x :: st) σ := by
  obtain ⟨p, l, e, R, s, m, args, below, meth, c, D, dA, ad⟩ := g
  obtain ⟨hx, hb, hml, hr, hlk, hown, hts, hK, hD, hR, hN⟩ := hc
  intro H locs ls hP hS hl
  exact lv_tableIn hx hb hd h1 h2 ho ht (k H locs ls hP hS hl)
theorem st_tableOut {g : Gx} {Y : List Sh} {own : String} {cc : ByteArray} {nL : Nat} {ret : Option FieldType} {d : Nat} {Q : Option Value → St → Prop} {pc : Nat} {lv : List (Option Value)} {st : List Value} {σ : St} {df lo hi : Int} {offs : Array Int} {ln : Nat} {x : Int32} {tgt : Nat} (hc : cX g Y own cc nL ret d) (hd : decode cc pc = .ok (.tableswitch df lo hi offs, ln)) (h : x.toInt < lo ∨ hi < x.toInt) (ht : (pc : Int) + df = (tgt : Int)) (k : aW g Y nL Q (tgt) lv st σ) : aW g Y nL Q pc lv (.int x :: st) σ := by
  obtain ⟨p, l, e, R, s, m, args, below, meth, c, D, dA, ad⟩ := g
  obtain ⟨hx, hb, hml, hr, hlk, hown, hts, hK, hD, hR, hN⟩ := hc
  intro H locs ls hP hS hl
  exact lv_tableOut hx hb hd h ht (k H locs ls hP hS hl)
theorem st_lookup {g : Gx} {Y : List Sh} {own : String} {cc : ByteArray} {nL : Nat} {ret : Option FieldType} {d : Nat} {Q : Option Value → St → Prop} {pc : Nat} {lv : List (Option Value)} {st : List Value} {σ : St} {df : Int} {ps : Array (Int × Int)} {ln : Nat} {x : Int32} {off : Int} {tgt : Nat} (hc : cX g Y own cc nL ret d) (hd : decode cc pc = .ok (.lookupswitch df ps, ln)) (hp : (ps.toList.zip (ps.toList.drop 1)).all (fun (a, next) => a.1 < next.1) = true) (ho : Op.lookupswitch.offset ps.toList df x.toInt = off) (ht : (pc : Int) + off = (tgt : Int)) (k : aW g Y nL Q (tgt) lv st σ) : aW g Y nL Q pc lv (.int x :: st) σ := by
  obtain ⟨p, l, e, R, s, m, args, below, meth, c, D, dA, ad⟩ := g
  obtain ⟨hx, hb, hml, hr, hlk, hown, hts, hK, hD, hR, hN⟩ := hc
  intro H locs ls hP hS hl
  exact lv_lookup hx hb hd hp ho ht (k H locs ls hP hS hl)
/-- field entry idx of class own's pool is field k of class ci -/
def FL (own : String) (idx ci k : Nat) : Prop := ∃ (C : String) (T : u_T) (N : Nat) (ty0 : Nat → FieldType), vwCl[ci]? = some (C, T, N) ∧ k < N ∧ (∀ w ∈ u_ws C T N, w ∈ gw) ∧ (∀ k, k < N → parseFieldDescriptor (T k).2.2.1 = some (ty0 k)) ∧ (∀ a, a < N → ∀ b, b < N → a ≠ b → (T a).2.1 ≠ (T b).2.1) ∧ (Cond.fieldLink own idx (T k).1 (T k).2.1 (T k).2.2.1 ∈ gw ∨ ∃ host : String, Cond.fieldLinkNest own idx (T k).1 (T k).2.1 (T k).2.2.1 host ∈ lw_tbl)
/-- .. and may be written: an int, or (z) a boolean -/
def FP (own : String) (idx ci k : Nat) (z : Bool) : Prop := FL own idx ci k ∧ ∀ C T N, vwCl[ci]? = some (C, T, N) → (T k).2.2.2 = false ∧ parseFieldDescriptor (T k).2.2.1 = some (if z then .boolean else .int)
theorem st_get {g : Gx} {Y : List Sh} {own : String} {cc : ByteArray} {nL : Nat} {ret : Option FieldType} {d : Nat} {Q : Option Value → St → Prop} {pc : Nat} {lv : List (Option Value)} {st : List Value} {σ : St} {idx a ci j : Nat} {fs : List (Option Nat)} (hc : cX g Y own cc nL ret d) (hd : decode cc pc = .ok (.getfield idx, 3)) (hf : FL own idx ci j) (hy : Y[a]? = some (.inr (ci, fs))) (hk : fs[j]? = some none) (k : aW g Y nL Q (pc + 3) lv (.int (σ a j) :: st) σ) : aW g Y nL Q pc lv (.ref a :: st) σ := by
  obtain ⟨p, l, e, R, s, m, args, below, meth, c, D, dA, ad⟩ := g
  obtain ⟨hx, hb, hml, hr, hlk, hown, hts, hK, hD, hR, hN⟩ := hc
  intro H locs ls hP hS hl
  obtain ⟨C, T, N, ty0, h1, h2, h3, -, -, h4⟩ := hf
  have hv : (wF ad (σ a) 0 fs)[j]? = some (.int (σ a j)) := by rw [wF_get, hk]; simp
  rcases h4 with h4 | ⟨host, h4⟩
  · exact va_get hx hb hts h3 hown hK hP a (wW_at hy) h1 j h2 (hts _ h4) (fun _ h => h) hv hd (k H locs ls hP hS hl)
  · exact va_getN hx hb hts h3 hown hK hP a (wW_at hy) h1 j h2 (va_Nw.use rfl (hN _ h4 rfl)) (fun _ h => h) hv hd (k H locs ls hP hS hl)
theorem st_getr {g : Gx} {Y : List Sh} {own : String} {cc : ByteArray} {nL : Nat} {ret : Option FieldType} {d : Nat} {Q : Option Value → St → Prop} {pc : Nat} {lv : List (Option Value)} {st : List Value} {σ : St} {idx a ci j q : Nat} {fs : List (Option Nat)} (hc : cX g Y own cc nL ret d) (hd : decode cc pc = .ok (.getfield idx, 3)) (hf : FL own idx ci j) (hy : Y[a]? = some (.inr (ci, fs))) (hk : fs[j]? = some (some q)) (k : aW g Y nL Q (pc + 3) lv (.ref q :: st) σ) : aW g Y nL Q pc lv (.ref a :: st) σ := by
  obtain ⟨p, l, e, R, s, m, args, below, meth, c, D, dA, ad⟩ := g
  obtain ⟨hx, hb, hml, hr, hlk, hown, hts, hK, hD, hR, hN⟩ := hc
  intro H locs ls hP hS hl
  obtain ⟨C, T, N, ty0, h1, h2, h3, -, -, h4⟩ := hf
  have hv : (wF ad (σ a) 0 fs)[j]? = some (.ref (ad q)) := by rw [wF_get, hk]; simp
  rcases h4 with h4 | ⟨host, h4⟩
  · exact va_get hx hb hts h3 hown hK hP a (wW_at hy) h1 j h2 (hts _ h4) (fun _ h => h) hv hd (k H locs ls hP hS hl)
  · exact va_getN hx hb hts h3 hown hK hP a (wW_at hy) h1 j h2 (va_Nw.use rfl (hN _ h4 rfl)) (fun _ h => h) hv hd (k H locs ls hP hS hl)
theorem st_put {g : Gx} {Y : List Sh} {own : String} {cc : ByteArray} {nL : Nat} {ret : Option FieldType} {d : Nat} {Q : Option Value → St → Prop} {pc : Nat} {lv : List (Option Value)} {st : List Value} {σ : St} {idx a ci j : Nat} {fs : List (Option Nat)} {x : Int32} (hc : cX g Y own cc nL ret d) (hd : decode cc pc = .ok (.putfield idx, 3)) (hf : FP own idx ci j false) (hy : Y[a]? = some (.inr (ci, fs))) (hk : fs[j]? = some none)  (k : aW g Y nL Q (pc + 3) lv st (up σ a j x)) : aW g Y nL Q pc lv (.int x :: .ref a :: st) σ := by
  obtain ⟨p, l, e, R, s, m, args, below, meth, c, D, dA, ad⟩ := g
  obtain ⟨hx, hb, hml, hr, hlk, hown, hts, hK, hD, hR, hN⟩ := hc
  intro H locs ls hP hS hl
  obtain ⟨⟨C, T, N, ty0, h1, h2, h3, h5, h6, h4⟩, h7⟩ := hf
  obtain ⟨h8, h9⟩ := h7 C T N h1
  have hlen : j < (wF ad (σ a) 0 fs).length := by rw [wF_len]; exact (List.getElem?_eq_some_iff.mp hk).1
  have hset : (wW dA ad σ 0 Y).set a (ad a, .inr (ci, (wF ad (σ a) 0 fs).set j (.int x))) = wW dA ad (up σ a j x) 0 Y := wW_set hy (by rw [wF_set ad (σ a) x fs 0 j hk]; show _ = Sum.inr (ci, wF ad (up σ a j x a) 0 fs); rw [up_k, Nat.zero_add]) up_o
  rcases h4 with h4 | ⟨host, h4⟩
  · exact va_put hx hb hts h3 ty0 h5 h6 hown hK hP (hD.D dA σ) hS a (wW_at hy) h1 j h2 (hts _ h4) (fun _ h => h) h8 h9 rfl rfl hlen hd (fun H1 locs1 hP1 _ hS1 => k H1 locs1 ls (hset ▸ hP1) hS1 hl)
  · exact va_putN hx hb hts h3 ty0 h5 h6 hown hK hP (hD.D dA σ) hS a (wW_at hy) h1 j h2 (va_Nw.use rfl (hN _ h4 rfl)) (fun _ h => h) h8 h9 rfl rfl hlen hd (fun H1 locs1 hP1 _ hS1 => k H1 locs1 ls (hset ▸ hP1) hS1 hl)
theorem st_putz {g : Gx} {Y : List Sh} {own : String} {cc : ByteArray} {nL : Nat} {ret : Option FieldType} {d : Nat} {Q : Option Value → St → Prop} {pc : Nat} {lv : List (Option Value)} {st : List Value} {σ : St} {idx a ci j : Nat} {fs : List (Option Nat)} {x : Int32} (hc : cX g Y own cc nL ret d) (hd : decode cc pc = .ok (.putfield idx, 3)) (hf : FP own idx ci j true) (hy : Y[a]? = some (.inr (ci, fs))) (hk : fs[j]? = some none) (hz : x = 0 ∨ x = 1) (k : aW g Y nL Q (pc + 3) lv st (up σ a j x)) : aW g Y nL Q pc lv (.int x :: .ref a :: st) σ := by
  obtain ⟨p, l, e, R, s, m, args, below, meth, c, D, dA, ad⟩ := g
  obtain ⟨hx, hb, hml, hr, hlk, hown, hts, hK, hD, hR, hN⟩ := hc
  intro H locs ls hP hS hl
  obtain ⟨⟨C, T, N, ty0, h1, h2, h3, h5, h6, h4⟩, h7⟩ := hf
  obtain ⟨h8, h9⟩ := h7 C T N h1
  have hlen : j < (wF ad (σ a) 0 fs).length := by rw [wF_len]; exact (List.getElem?_eq_some_iff.mp hk).1
  have hset : (wW dA ad σ 0 Y).set a (ad a, .inr (ci, (wF ad (σ a) 0 fs).set j (.int x))) = wW dA ad (up σ a j x) 0 Y := wW_set hy (by rw [wF_set ad (σ a) x fs 0 j hk]; show _ = Sum.inr (ci, wF ad (up σ a j x a) 0 fs); rw [up_k, Nat.zero_add]) up_o
  rcases h4 with h4 | ⟨host, h4⟩
  · exact va_put hx hb hts h3 ty0 h5 h6 hown hK hP (hD.D dA σ) hS a (wW_at hy) h1 j h2 (hts _ h4) (fun _ h => h) h8 h9 (by rcases hz with rfl | rfl <;> rfl) (by rcases hz with rfl | rfl <;> rfl) hlen hd (fun H1 locs1 hP1 _ hS1 => k H1 locs1 ls (hset ▸ hP1) hS1 hl)
  · exact va_putN hx hb hts h3 ty0 h5 h6 hown hK hP (hD.D dA σ) hS a (wW_at hy) h1 j h2 (va_Nw.use rfl (hN _ h4 rfl)) (fun _ h => h) h8 h9 (by rcases hz with rfl | rfl <;> rfl) (by rcases hz with rfl | rfl <;> rfl) hlen hd (fun H1 locs1 hP1 _ hS1 => k H1 locs1 ls (hset ▸ hP1) hS1 hl)
theorem st_iald {g : Gx} {Y : List Sh} {own : String} {cc : ByteArray} {nL : Nat} {ret : Option FieldType} {d : Nat} {Q : Option Value → St → Prop} {pc : Nat} {lv : List (Option Value)} {st : List Value} {σ : St} {a n : Nat} {rs : List Nat} {i : Int32} (hc : cX g Y own cc nL ret d) (hd : decode cc pc = .ok (.iaload, 1)) (hy : Y[a]? = some (.inl (0, n, rs))) (hin : vp_in i n) (k : aW g Y nL Q (pc + 1) lv (.int (σ a i.toNatClampNeg) :: st) σ) : aW g Y nL Q pc lv (.int i :: .ref a :: st) σ := by
  obtain ⟨p, l, e, R, s, m, args, below, meth, c, D, dA, ad⟩ := g
  obtain ⟨hx, hb, hml, hr, hlk, hown, hts, hK, hD, hR, hN⟩ := hc
  intro H locs ls hP hS hl
  exact va_iald hx hb hK hP a 0 (wW_at hy) rfl hin hd (k H locs ls hP hS hl)
theorem st_zald {g : Gx} {Y : List Sh} {own : String} {cc : ByteArray} {nL : Nat} {ret : Option FieldType} {d : Nat} {Q : Option Value → St → Prop} {pc : Nat} {lv : List (Option Value)} {st : List Value} {σ : St} {a n : Nat} {rs : List Nat} {i : Int32} (hc : cX g Y own cc nL ret d) (hd : decode cc pc = .ok (.baload, 1)) (hy : Y[a]? = some (.inl (1, n, rs))) (hin : vp_in i n) (k : aW g Y nL Q (pc + 1) lv (.int (σ a i.toNatClampNeg) :: st) σ) : aW g Y nL Q pc lv (.int i :: .ref a :: st) σ := by
  obtain ⟨p, l, e, R, s, m, args, below, meth, c, D, dA, ad⟩ := g
  obtain ⟨hx, hb, hml, hr, hlk, hown, hts, hK, hD, hR, hN⟩ := hc
  intro H locs ls hP hS hl
  exact va_zald hx hb hK hP a 1 (wW_at hy) rfl hin hd (k H locs ls hP hS hl)
theorem st_lald {g : Gx} {Y : List Sh} {own : String} {cc : ByteArray} {nL : Nat} {ret : Option FieldType} {d : Nat} {Q : Option Value → St → Prop} {pc : Nat} {lv : List (Option Value)} {st : List Value} {σ : St} {a n : Nat} {rs : List Nat} {i : Int32} (hc : cX g Y own cc nL ret d) (hd : decode cc pc = .ok (.laload, 1)) (hy : Y[a]? = some (.inl (2, n, rs))) (hin : vp_in i n) (k : aW g Y nL Q (pc + 1) lv (.long (jn (σ a (2 * i.toNatClampNeg)) (σ a (2 * i.toNatClampNeg + 1))) :: st) σ) : aW g Y nL Q pc lv (.int i :: .ref a :: st) σ := by
  obtain ⟨p, l, e, R, s, m, args, below, meth, c, D, dA, ad⟩ := g
  obtain ⟨hx, hb, hml, hr, hlk, hown, hts, hK, hD, hR, hN⟩ := hc
  intro H locs ls hP hS hl
  exact va_lald hx hb hK hP a 2 (wW_at hy) rfl hin hd (k H locs ls hP hS hl)
theorem st_aald {g : Gx} {Y : List Sh} {own : String} {cc : ByteArray} {nL : Nat} {ret : Option FieldType} {d : Nat} {Q : Option Value → St → Prop} {pc : Nat} {lv : List (Option Value)} {st : List Value} {σ : St} {a n q : Nat} {rs : List Nat} {i : Int32} (hc : cX g Y own cc nL ret d) (hd : decode cc pc = .ok (.aaload, 1)) (hy : Y[a]? = some (.inl (3, n, rs))) (hin : vp_in i n) (hq : rs[i.toNatClampNeg]? = some q) (k : aW g Y nL Q (pc + 1) lv (.ref q :: st) σ) : aW g Y nL Q pc lv (.int i :: .ref a :: st) σ := by
  obtain ⟨p, l, e, R, s, m, args, below, meth, c, D, dA, ad⟩ := g
  obtain ⟨hx, hb, hml, hr, hlk, hown, hts, hK, hD, hR, hN⟩ := hc
  intro H locs ls hP hS hl
  refine va_aldq hx hb hK hP a 3 (wW_at hy) rfl hin hd ?_
  have hk := k H locs ls hP hS hl
  show W p l e R s m args below meth c H locs 0 0 _ (F0 m (pc + 1) ls (va_rf ((rs[i.toNatClampNeg]?).map ad) :: _))
  rw [hq]
  exact hk
theorem st_iast {g : Gx} {Y : List Sh} {own : String} {cc : ByteArray} {nL : Nat} {ret : Option FieldType} {d : Nat} {Q : Option Value → St → Prop} {pc : Nat} {lv : List (Option Value)} {st : List Value} {σ : St} {a n : Nat} {rs : List Nat} {i x : Int32} (hc : cX g Y own cc nL ret d) (hd : decode cc pc = .ok (.iastore, 1)) (hy : Y[a]? = some (.inl (0, n, rs))) (hin : vp_in i n) (k : aW g Y nL Q (pc + 1) lv st (up σ a i.toNatClampNeg x)) : aW g Y nL Q pc lv (.int x :: .int i :: .ref a :: st) σ := by
  obtain ⟨p, l, e, R, s, m, args, below, meth, c, D, dA, ad⟩ := g
  obtain ⟨hx, hb, hml, hr, hlk, hown, hts, hK, hD, hR, hN⟩ := hc
  intro H locs ls hP hS hl
  have hset : (wW dA ad σ 0 Y).set a (ad a, .inl (dA 0, n, .inl (upd (σ a) i.toNatClampNeg x))) = wW dA ad (up σ a i.toNatClampNeg x) 0 Y := wW_set hy (by show _ = Sum.inl (dA 0, n, Sum.inl (up σ a i.toNatClampNeg x a)); rw [up_k]) up_o
  exact va_iast hx hb hK hP (hD.D dA σ) hS a 0 (wW_at hy) rfl hin hd (fun H1 locs1 hP1 _ hS1 => k H1 locs1 ls (hset ▸ hP1) hS1 hl)
theorem st_zast {g : Gx} {Y : List Sh} {own : String} {cc : ByteArray} {nL : Nat} {ret : Option FieldType} {d : Nat} {Q : Option Value → St → Prop} {pc : Nat} {lv : List (Option Value)} {st : List Value} {σ : St} {a n : Nat} {rs : List Nat} {i x : Int32} (hc : cX g Y own cc nL ret d) (hd : decode cc pc = .ok (.bastore, 1)) (hy : Y[a]? = some (.inl (1, n, rs))) (hin : vp_in i n) (hz : x = 0 ∨ x = 1) (k : aW g Y nL Q (pc + 1) lv st (up σ a i.toNatClampNeg x)) : aW g Y nL Q pc lv (.int x :: .int i :: .ref a :: st) σ := by
  obtain ⟨p, l, e, R, s, m, args, below, meth, c, D, dA, ad⟩ := g
  obtain ⟨hx, hb, hml, hr, hlk, hown, hts, hK, hD, hR, hN⟩ := hc
  intro H locs ls hP hS hl
  have hz2 : vp_nar .boolean x = x := by rcases hz with rfl | rfl <;> rfl
  have hset : (wW dA ad σ 0 Y).set a (ad a, .inl (dA 1, n, .inl (upd (σ a) i.toNatClampNeg (vp_nar .boolean x)))) = wW dA ad (up σ a i.toNatClampNeg x) 0 Y := wW_set hy (by rw [hz2]; show _ = Sum.inl (dA 1, n, Sum.inl (up σ a i.toNatClampNeg x a)); rw [up_k]) up_o
  exact va_zast hx hb hK hP (hD.D dA σ) hS a 1 (wW_at hy) rfl hin hd (fun H1 locs1 hP1 _ hS1 => k H1 locs1 ls (hset ▸ hP1) hS1 hl)
theorem st_last {g : Gx} {Y : List Sh} {own : String} {cc : ByteArray} {nL : Nat} {ret : Option FieldType} {d : Nat} {Q : Option Value → St → Prop} {pc : Nat} {lv : List (Option Value)} {st : List Value} {σ : St} {a n : Nat} {rs : List Nat} {i : Int32} {x : Int64} (hc : cX g Y own cc nL ret d) (hd : decode cc pc = .ok (.lastore, 1)) (hy : Y[a]? = some (.inl (2, n, rs))) (hin : vp_in i n) (k : aW g Y nL Q (pc + 1) lv st (upL σ a i.toNatClampNeg x)) : aW g Y nL Q pc lv (.long x :: .int i :: .ref a :: st) σ := by
  obtain ⟨p, l, e, R, s, m, args, below, meth, c, D, dA, ad⟩ := g
  obtain ⟨hx, hb, hml, hr, hlk, hown, hts, hK, hD, hR, hN⟩ := hc
  intro H locs ls hP hS hl
  have hset : (wW dA ad σ 0 Y).set a (ad a, .inl (dA 2, n, .inr (.inl (vp_updL (fun j => jn (σ a (2 * j)) (σ a (2 * j + 1))) i.toNatClampNeg x)))) = wW dA ad (upL σ a i.toNatClampNeg x) 0 Y := wW_set hy (by
    show _ = Sum.inl (dA 2, n, Sum.inr (Sum.inl (fun j => jn (upL σ a i.toNatClampNeg x a (2 * j)) (upL σ a i.toNatClampNeg x a (2 * j + 1)))))
    rw [upL_k]
    congr 5
    funext j
    unfold vp_updL upd
    by_cases e : j = i.toNatClampNeg
    · subst e; simp [jn_eq]
    · simp only [if_neg e, if_neg (show ¬ 2 * j = 2 * i.toNatClampNeg + 1 by omega), if_neg (show ¬ 2 * j = 2 * i.toNatClampNeg by omega), if_neg (show ¬ 2 * j + 1 = 2 * i.toNatClampNeg + 1 by omega), if_neg (show ¬ 2 * j + 1 = 2 * i.toNatClampNeg by omega)]) upL_o
  exact va_last hx hb hK hP (hD.D dA σ) hS a 2 (wW_at hy) rfl hin hd (fun H1 locs1 hP1 _ hS1 => k H1 locs1 ls (hset ▸ hP1) hS1 hl)
theorem st_alen {g : Gx} {Y : List Sh} {own : String} {cc : ByteArray} {nL : Nat} {ret : Option FieldType} {d : Nat} {Q : Option Value → St → Prop} {pc : Nat} {lv : List (Option Value)} {st : List Value} {σ : St} {a t n : Nat} {rs : List Nat} {v : Int32} (hc : cX g Y own cc nL ret d) (hd : decode cc pc = .ok (.arraylength, 1)) (hy : Y[a]? = some (.inl (t, n, rs))) (ht : t < 4) (hv : Int32.ofNat n = v) (k : aW g Y nL Q (pc + 1) lv (.int v :: st) σ) : aW g Y nL Q pc lv (.ref a :: st) σ := by
  obtain ⟨p, l, e, R, s, m, args, below, meth, c, D, dA, ad⟩ := g
  obtain ⟨hx, hb, hml, hr, hlk, hown, hts, hK, hD, hR, hN⟩ := hc
  intro H locs ls hP hS hl
  rcases (show t = 0 ∨ t = 1 ∨ t = 2 ∨ t = 3 by omega) with rfl | rfl | rfl | rfl
  · exact va_alen hx hb hK hP a 0 (wW_at hy) rfl hv hd (k H locs ls hP hS hl)
  · exact va_alen hx hb hK hP a 1 (wW_at hy) rfl hv hd (k H locs ls hP hS hl)
  · exact va_alen hx hb hK hP a 2 (wW_at hy) rfl hv hd (k H locs ls hP hS hl)
  · exact va_alen hx hb hK hP a 3 (wW_at hy) rfl hv hd (k H locs ls hP hS hl)
theorem st_iret {g : Gx} {Y : List Sh} {own : String} {cc : ByteArray} {nL : Nat} {ret : Option FieldType} {d : Nat} {Q : Option Value → St → Prop} {pc : Nat} {lv : List (Option Value)} {st : List Value} {σ : St} {x : Int32} (hc : cX g Y own cc nL ret d) (hd : decode cc pc = .ok (.ireturn, 1)) (hrt : ret = some .int) (k : Q (some (.int x)) σ)  : aW g Y nL Q pc lv [.int x] σ := by
  obtain ⟨p, l, e, R, s, m, args, below, meth, c, D, dA, ad⟩ := g
  obtain ⟨hx, hb, hml, hr, hlk, hown, hts, hK, hD, hR, hN⟩ := hc
  intro H locs ls hP hS hl
  exact W.iret hx hb (hr.trans hrt) (fun t ht hW => ⟨⟨some (.int x), σ, rfl, k, by rw [ht]; exact hP⟩, hS.F ht⟩) hS.2.2 hd hlk
theorem st_zret {g : Gx} {Y : List Sh} {own : String} {cc : ByteArray} {nL : Nat} {ret : Option FieldType} {d : Nat} {Q : Option Value → St → Prop} {pc : Nat} {lv : List (Option Value)} {st : List Value} {σ : St} {x : Int32} (hc : cX g Y own cc nL ret d) (hd : decode cc pc = .ok (.ireturn, 1)) (hrt : ret = some .boolean) (hz : x = 0 ∨ x = 1) (k : Q (some (.int x)) σ)  : aW g Y nL Q pc lv [.int x] σ := by
  obtain ⟨p, l, e, R, s, m, args, below, meth, c, D, dA, ad⟩ := g
  obtain ⟨hx, hb, hml, hr, hlk, hown, hts, hK, hD, hR, hN⟩ := hc
  intro H locs ls hP hS hl
  exact W.zret hx hb (hr.trans hrt) (by rcases hz with rfl | rfl <;> rfl) (fun t ht hW => ⟨⟨some (.int x), σ, rfl, k, by rw [ht]; exact hP⟩, hS.F ht⟩) hS.2.2 hd hlk
theorem st_lret {g : Gx} {Y : List Sh} {own : String} {cc : ByteArray} {nL : Nat} {ret : Option FieldType} {d : Nat} {Q : Option Value → St → Prop} {pc : Nat} {lv : List (Option Value)} {st : List Value} {σ : St} {x : Int64} (hc : cX g Y own cc nL ret d) (hd : decode cc pc = .ok (.lreturn, 1)) (hrt : ret = some .long) (k : Q (some (.long x)) σ)  : aW g Y nL Q pc lv [.long x] σ := by
  obtain ⟨p, l, e, R, s, m, args, below, meth, c, D, dA, ad⟩ := g
  obtain ⟨hx, hb, hml, hr, hlk, hown, hts, hK, hD, hR, hN⟩ := hc
  intro H locs ls hP hS hl
  exact W.lret hx hb (hr.trans hrt) (fun t ht hW => ⟨⟨some (.long x), σ, rfl, k, by rw [ht]; exact hP⟩, hS.F ht⟩) hS.2.2 hd hlk
theorem st_vret {g : Gx} {Y : List Sh} {own : String} {cc : ByteArray} {nL : Nat} {ret : Option FieldType} {d : Nat} {Q : Option Value → St → Prop} {pc : Nat} {lv : List (Option Value)} {st : List Value} {σ : St}  (hc : cX g Y own cc nL ret d) (hd : decode cc pc = .ok (.return_, 1)) (hrt : ret = none) (k : Q none σ)  : aW g Y nL Q pc lv [] σ := by
  obtain ⟨p, l, e, R, s, m, args, below, meth, c, D, dA, ad⟩ := g
  obtain ⟨hx, hb, hml, hr, hlk, hown, hts, hK, hD, hR, hN⟩ := hc
  intro H locs ls hP hS hl
  exact W.vret hx hb (hr.trans hrt) (fun t ht hW => ⟨⟨none, σ, rfl, k, by rw [ht]; exact hP⟩, hS.F ht⟩) hS.2.2 hd hlk
theorem st_aret {g : Gx} {Y : List Sh} {own : String} {cc : ByteArray} {nL : Nat} {ret : Option FieldType} {d : Nat} {Q : Option Value → St → Prop} {pc : Nat} {lv : List (Option Value)} {st : List Value} {σ : St} {x : Nat} {C : String} (hc : cX g Y own cc nL ret d) (hd : decode cc pc = .ok (.areturn, 1)) (hrt : ret = some (.object C)) (k : Q (some (.ref x)) σ)  : aW g Y nL Q pc lv [.ref x] σ := by
  obtain ⟨p, l, e, R, s, m, args, below, meth, c, D, dA, ad⟩ := g
  obtain ⟨hx, hb, hml, hr, hlk, hown, hts, hK, hD, hR, hN⟩ := hc
  intro H locs ls hP hS hl
  exact W.aret hx hb (hr.trans hrt) (Or.inl ⟨C, rfl⟩) (Or.inr ⟨_, rfl⟩) (fun t ht hW => ⟨⟨some (.ref x), σ, rfl, k, by rw [ht]; exact hP⟩, hS.F ht⟩) hS.2.2 hd hlk
/-! naming -/
theorem st_topi {g : Gx} {Y : List Sh} {nL : Nat} {Q : Option Value → St → Prop} {pc : Nat} {lv : List (Option Value)} {st : List Value} {σ : St} {x : Int32} (k : ∀ y : Int32, y = x → aW g Y nL Q pc lv (.int y :: st) σ) : aW g Y nL Q pc lv (.int x :: st) σ := k x rfl
theorem st_topl {g : Gx} {Y : List Sh} {nL : Nat} {Q : Option Value → St → Prop} {pc : Nat} {lv : List (Option Value)} {st : List Value} {σ : St} {x : Int64} (k : ∀ y : Int64, y = x → aW g Y nL Q pc lv (.long y :: st) σ) : aW g Y nL Q pc lv (.long x :: st) σ := k x rfl
theorem st_store {g : Gx} {Y : List Sh} {nL : Nat} {Q : Option Value → St → Prop} {pc : Nat} {lv : List (Option Value)} {st : List Value} {σ : St} (k : ∀ τ : St, τ = σ → aW g Y nL Q pc lv st τ) : aW g Y nL Q pc lv st σ := k σ rfl
theorem st_eqs {g : Gx} {Y : List Sh} {nL : Nat} {Q : Option Value → St → Prop} {pc : Nat} {lv : List (Option Value)} {st st' : List Value} {σ : St} (h : st = st') (k : aW g Y nL Q pc lv st' σ) : aW g Y nL Q pc lv st σ := h ▸ k
/-- locals may be forgotten -/
def lvle : List (Option Value) → List (Option Value) → Prop := fun a b => ∀ (i : Nat) (v : Value), b[i]? = some (some v) → a[i]? = some (some v)
theorem st_lv {g : Gx} {Y : List Sh} {nL : Nat} {Q : Option Value → St → Prop} {pc : Nat} {lv lv' : List (Option Value)} {st : List Value} {σ : St} (h : lvle lv lv') (k : aW g Y nL Q pc lv' st σ) : aW g Y nL Q pc lv st σ := by
  obtain ⟨p, l, e, R, s, m, args, below, meth, c, D, dA, ad⟩ := g
  intro H locs ls hP hS hl
  refine k H locs ls hP hS ⟨hl.1, hl.2.1, fun q hq => hl.2.2 q ?_⟩
  obtain ⟨i, v, h1, h2⟩ := (lvl_mem _ 0 q).mp hq
  exact (lvl_mem _ 0 q).mpr ⟨i, v, h i v h1, h2⟩
/-- a contract may say less -/
theorem cP_blind {D : va_G} {dA : Nat → ClassId} {ad : Nat → Nat} {Y : List Sh} {av : List Value} {σ : St} : FrameBlind (cP D dA ad Y av σ) := fun a U g mk q => by
  obtain ⟨q1, q2, q3, q4, q5⟩ := q
  exact ⟨q1, q2, va_K.moved (u := U) (U := U.calling g mk a) (Vm.Alike.refl U.vm) q3, q4, nK.same (s := U) (U := U.calling g mk a) rfl q5⟩
/-- FROM THE BODY TO THE CONTRACT -/
theorem Mt.ofA {Y : List Sh} {md : Md} {d : Nat} {av : List Value} {σ : St} {Q : Option Value → St → Prop} (lv0 : List (Option Value)) (hy : plainName md.1.cls = true) (hlen : ∀ ad : Nat → Nat, (lg_sl (av.map (cvv ad))).length ≤ md.2.2.1) (hlv : ∀ ad : Nat → Nat, lvl ad 0 lv0 = lv_args 0 (av.map (cvv ad)))
    (body : ∀ g : Gx, cX g Y md.1.cls md.2.1 md.2.2.1 md.2.2.2 d → aW g Y md.2.2.1 Q 0 lv0 [] σ) : Mt Y md d av σ Q := by
  intro l D dA ad
  refine Met.ofW (cc := md.2.1) (maxL := md.2.2.1) (ret := md.2.2.2) hy rfl ?_
  intro p e s m args below meth c s₁ B hml hv
  obtain ⟨rfl, hP, hK, hD0, hN⟩ := hv
  have hx := B.exec
  have hb := B.bytes
  have hr := B.returns
  have hts := atoms_spec (ws := Cond.code md.1 md.2.1 md.2.2.1 md.2.2.2 :: gw) B.pre
  have hown : s.vm.findClass md.1.cls = some m.cls := findClass_of_methodNamed B.named
  have hlocks := B.notSynchronized
  have hS : va_S (cA ad Y) s.heap s.heap [] := va_S.rf
  have hl := lv_entry (av.map (cvv ad)) (n := md.2.2.1) (hlen ad)
  rw [lg_entry_eq]
  rw [← hlv ad] at hl
  exact body (p, l, e, rmD d, s, m, (av.map (cvv ad)).toArray, below, meth, c, D, dA, ad) ⟨hx, hb, hml, hr, hlocks, hown, fun w hw => hts w (List.mem_cons_of_mem _ hw), hK, hD0, rfl, hN⟩ s.heap [] _ hP hS hl
theorem aW_run {p : Program} {l : Launch} {e : Env} {R : Room} {s : State} {m : MethodId} {args : Array Value} {below : List Frame} {meth : Method} {c : Code} {D : va_G} {dA : Nat → ClassId} {ad : Nat → Nat} {Y : List Sh} {nL : Nat} {Q P : Option Value → St → Prop} {pc : Nat} {lv : List (Option Value)} {rest : List Value} {H : Heap} {locs : List Loc} {ls : Array Slot} {st0 : List Value} {a : Array Value}
    (hr : va_Run p l e R s m args below meth c H locs 0 0 0 0 (F0 m pc ls st0) (rest.map (cvv ad)) (cQ D dA ad Y P a) (cA ad Y)) (hS : va_S (cA ad Y) s.heap H locs) (hl : lv_has ls nL (lvl ad 0 lv))
    (kk : ∀ (r : Option Value) (τ : St), P r τ → aW (p, l, e, R, s, m, args, below, meth, c, D, dA, ad) Y nL Q (pc + 3) lv (r.toList ++ rest) τ) : W p l e R s m args below meth c H locs 0 0 (MQ below (cQ D dA ad Y Q) args s 0 0 (cA ad Y)) (F0 m pc ls st0) := by
  intro T hT X
  obtain ⟨v, st₀, t, T', L, h0, X', hL, e1, e2, ⟨⟨r, τ, hv, hp, hb⟩, hz, hk⟩, stp⟩ := hr T hT X
  cases hv
  rw [h0] at hz hk
  have hS' : va_S (cA ad Y) s.heap T'.heap (locs ++ L) := ⟨Nat.le_trans hS.1 (by rw [e1]; exact hz), fun q h1 h2 => by rw [e1, hk q (Nat.lt_of_lt_of_le h1 hS.1) h2]; exact hS.2.1 q h1 h2, fun q hq => by
      rcases List.mem_append.mp hq with h | h
      · exact hS.2.2 q h
      · exact hL q h⟩
  obtain ⟨t2, a1, b1⟩ := kk r τ hp T'.heap (locs ++ L) ls (by rw [e1]; exact hb) hS' hl T' rfl X'
  refine ⟨t2, stp t2 ?_, b1⟩
  have he : (r.map (cvv ad)).toList ++ rest.map (cvv ad) = (r.toList ++ rest).map (cvv ad) := by cases r <;> simp
  show Steps p.tables e below (T'.setTop (F0 m (pc + 3) ls ((r.map (cvv ad)).toList ++ rest.map (cvv ad)))) t2
  rw [he]
  exact a1
/-- a method that entry idx of own's pool names: called on an object of class ci -/
def MLv (own : String) (idx ci : Nat) (md : Md) (n : Nat) : Prop := (∃ (T : u_T) (N : Nat), vwCl[ci]? = some (md.1.cls, T, N)) ∧ Cond.code md.1 md.2.1 md.2.2.1 md.2.2.2 ∈ gw ∧ Cond.initialized md.1.cls ∈ gw ∧ Cond.instanceMethod md.1 ∈ gw ∧ Cond.selects md.1.cls md.1 md.1 ∈ gw ∧ md.2.2.1 ≤ 45 ∧ (md.1.cls ≠ "java/lang/invoke/MethodHandle" ∧ md.1.cls ≠ "java/lang/invoke/VarHandle" ∧ (parseMethodDescriptor md.1.desc).map (fun d => d.parameters.length) = some n) ∧ (Cond.methodLink own idx md.1 ∈ gw ∨ ∃ host : String, Cond.methodLinkNest own idx md.1 host ∈ lw_tbl)
/-- .. a static one -/
def MLs (own : String) (idx : Nat) (md : Md) (n : Nat) : Prop := Cond.code md.1 md.2.1 md.2.2.1 md.2.2.2 ∈ gw ∧ Cond.initialized md.1.cls ∈ gw ∧ Cond.static md.1 ∈ gw ∧ md.2.2.1 ≤ 45 ∧ (md.1.cls ≠ "java/lang/invoke/MethodHandle" ∧ md.1.cls ≠ "java/lang/invoke/VarHandle" ∧ (parseMethodDescriptor md.1.desc).map (fun d => d.parameters.length) = some n) ∧ (Cond.methodLink own idx md.1 ∈ gw ∨ ∃ host : String, Cond.methodLinkNest own idx md.1 host ∈ lw_tbl)
theorem st_callV {g : Gx} {Y : List Sh} {own : String} {cc : ByteArray} {nL : Nat} {ret : Option FieldType} {d : Nat} {Q : Option Value → St → Prop} {pc : Nat} {lv : List (Option Value)} {σ : St} {idx ci d' n b : Nat} {md : Md} {As rest st0 : List Value} {fs : List (Option Nat)} {P : Option Value → St → Prop} (hc : cX g Y own cc nL ret d) (hdg : decode cc pc = .ok (.invokevirtual idx, 3)) (hM : Mt Y md d' (.ref b :: As) σ P) (hL : MLv own idx ci md n) (hdd : d' + 1 ≤ d) (hn : As.length = n) (hy : Y[b]? = some (.inr (ci, fs))) (hst : st0 = As.reverse ++ .ref b :: rest) (hw : (rest.map fun v => v.category).sum ≤ 8)
    (kk : ∀ (r : Option Value) (τ : St), P r τ → aW g Y nL Q (pc + 3) lv (r.toList ++ rest) τ) : aW g Y nL Q pc lv st0 σ := by
  obtain ⟨p, l, e, R, s, m, args, below, meth, c, D, dA, ad⟩ := g
  obtain ⟨hx, hb, hml, hr, hlk, hown, hts, hK, hD, hR, hN⟩ := id hc
  intro H locs ls hP hS hl
  obtain ⟨⟨T, N, h1⟩, h2, h3, h4, h5, h6, h7, h8⟩ := hL
  have hpre : PreV s H md.1.cls (ad b) (cP D dA ad Y (.ref b :: As) σ) (As.map (cvv ad)) := ⟨cP_blind, va_recv hK hP h1 (wW_at hy), fun U hU hW => ⟨rfl, by rw [hU]; exact hP, va_K.moved hW.alike hK, hD, hN.warm hW⟩⟩
  have hwr : ((rest.map (cvv ad)).map fun v => v.category).sum ≤ 8 := by
    rw [List.map_map]
    have : ((fun v : Value => v.category) ∘ cvv ad) = (fun v => v.category) := by funext v; exact cvv_cat ad v
    rw [this]; exact hw
  have hst' : st0.map (cvv ad) = (As.map (cvv ad)).reverse ++ .ref (ad b) :: rest.map (cvv ad) := by subst hst; simp [cvv]
  have hGd : GoodIn gw (Cond.code md.1 md.2.1 md.2.2.1 md.2.2.2 :: gw) := gw_good (fun w hw => by rcases List.mem_cons.mp hw with rfl | hw; exact h2; exact hw)
  have hRr : (rmD d').frames + 1 ≤ R.frames ∧ 8 + (md.2.2.1 + 11) + (rmD d').locals ≤ R.locals := by subst hR; simp only [rmD]; omega
  rcases h8 with h8 | ⟨host, h8⟩
  · refine aW_run (va_runV (As := As.map (cvv ad)) ⟨hx, hb, hml, hown, hts⟩ (hM l D dA ad) (cwV n hts (gw_good (fun w hw => ?_)) rfl rfl rfl ⟨rfl, h7⟩ hRr) hpre rfl (by rw [List.length_map]; exact hn) hl.1 hst' (lv_room hwr) hdg ⟨Nat.zero_le _, Nat.zero_le _⟩) hS hl kk
    rcases List.mem_append.mp hw with hw | hw
    · simp only [List.mem_cons, List.not_mem_nil, or_false] at hw
      rcases hw with rfl | rfl | rfl | rfl
      · exact h8
      · exact h4
      · exact h5
      · exact h3
    · exact (hGd w hw).1
  · exact aW_run (va_runVN (As := As.map (cvv ad)) (C := md.1.cls) ⟨hx, hb, hml, hown, hts⟩ (hM l D dA ad) ⟨va_cnB n hts hGd rfl rfl rfl (hN _ h8 rfl) (hts _ h3) h7 hRr, hts _ h4, hts _ h5⟩ hpre rfl (by rw [List.length_map]; exact hn) hl.1 hst' (lv_room hwr) hdg ⟨Nat.zero_le _, Nat.zero_le _⟩) hS hl kk
theorem st_callS {g : Gx} {Y : List Sh} {own : String} {cc : ByteArray} {nL : Nat} {ret : Option FieldType} {d : Nat} {Q : Option Value → St → Prop} {pc : Nat} {lv : List (Option Value)} {σ : St} {idx d' n : Nat} {md : Md} {As rest st0 : List Value} {P : Option Value → St → Prop} (hc : cX g Y own cc nL ret d) (hdg : decode cc pc = .ok (.invokestatic idx, 3)) (hM : Mt Y md d' As σ P) (hL : MLs own idx md n) (hdd : d' + 1 ≤ d) (hn : As.length = n) (hst : st0 = As.reverse ++ rest) (hw : (rest.map fun v => v.category).sum ≤ 8)
    (kk : ∀ (r : Option Value) (τ : St), P r τ → aW g Y nL Q (pc + 3) lv (r.toList ++ rest) τ) : aW g Y nL Q pc lv st0 σ := by
  obtain ⟨p, l, e, R, s, m, args, below, meth, c, D, dA, ad⟩ := g
  obtain ⟨hx, hb, hml, hr, hlk, hown, hts, hK, hD, hR, hN⟩ := id hc
  intro H locs ls hP hS hl
  obtain ⟨h2, h3, h4, h6, h7, h8⟩ := hL
  have hpre : PreS s H (cP D dA ad Y As σ) (As.map (cvv ad)) := ⟨cP_blind, fun U hU hW => ⟨rfl, by rw [hU]; exact hP, va_K.moved hW.alike hK, hD, hN.warm hW⟩⟩
  have hwr : ((rest.map (cvv ad)).map fun v => v.category).sum ≤ 8 := by
    rw [List.map_map]
    have : ((fun v : Value => v.category) ∘ cvv ad) = (fun v => v.category) := by funext v; exact cvv_cat ad v
    rw [this]; exact hw
  have hst' : st0.map (cvv ad) = (As.map (cvv ad)).reverse ++ rest.map (cvv ad) := by subst hst; simp
  have hGd : GoodIn gw (Cond.code md.1 md.2.1 md.2.2.1 md.2.2.2 :: gw) := gw_good (fun w hw => by rcases List.mem_cons.mp hw with rfl | hw; exact h2; exact hw)
  have hRr : (rmD d').frames + 1 ≤ R.frames ∧ 8 + (md.2.2.1 + 11) + (rmD d').locals ≤ R.locals := by subst hR; simp only [rmD]; omega
  rcases h8 with h8 | ⟨host, h8⟩
  · refine aW_run (va_runS (As := As.map (cvv ad)) ⟨hx, hb, hml, hown, hts⟩ (hM l D dA ad) (va_cwS n hts (gw_good (fun w hw => ?_)) rfl rfl rfl h7 hRr) hpre rfl (by rw [List.length_map]; exact hn) hl.1 hst' (lv_room hwr) hdg ⟨Nat.zero_le _, Nat.zero_le _⟩) hS hl kk
    rcases List.mem_append.mp hw with hw | hw
    · simp only [List.mem_cons, List.not_mem_nil, or_false] at hw
      rcases hw with rfl | rfl | rfl
      · exact h8
      · exact h4
      · exact h3
    · exact (hGd w hw).1
  · exact aW_run (va_runSN (As := As.map (cvv ad)) ⟨hx, hb, hml, hown, hts⟩ (hM l D dA ad) ⟨va_cnB n hts hGd rfl rfl rfl (hN _ h8 rfl) (hts _ h3) h7 hRr, hts _ h4, trivial⟩ hpre rfl (by rw [List.length_map]; exact hn) hl.1 hst' (lv_room hwr) hdg ⟨Nat.zero_le _, Nat.zero_le _⟩) hS hl kk
end
