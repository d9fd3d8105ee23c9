-- ===== PART A: goes FIRST, ahead of the names: the tables' words, and 'selects' of the private methods out of them =====
/-- a private method of a class that the tables say can be made, by its rows of tables_1 -/
def lw_okq (q : MethodName × Nat) : Prop := (q.1.cls ≠ "java/lang/invoke/MethodHandle" ∧ q.1.cls ≠ "java/lang/invoke/VarHandle") ∧ Cond.instantiable q.1.cls q.2 ∈ tables_1 ∧ Cond.privateMethod q.1 ∈ tables_1 ∧ Cond.instanceMethod q.1 ∈ tables_1
theorem lw_p0 : lw_okq (⟨"HighlightPlaces", "feedNumber", "(I)V"⟩, 7) := ⟨⟨by decide +kernel, by decide +kernel⟩, List.mem_of_getElem? (i := 12) (by decide +kernel), List.mem_of_getElem? (i := 335) (by decide +kernel), List.mem_of_getElem? (i := 336) (by decide +kernel)⟩
theorem lw_p1 : lw_okq (⟨"HighlightPlaces$Row", "makeRoom", "(I)V"⟩, 3) := ⟨⟨by decide +kernel, by decide +kernel⟩, List.mem_of_getElem? (i := 20) (by decide +kernel), List.mem_of_getElem? (i := 343) (by decide +kernel), List.mem_of_getElem? (i := 344) (by decide +kernel)⟩
theorem lw_p2 : lw_okq (⟨"HighlightPlaces$Text", "begin", "(LHighlightPlaces$Row;)V"⟩, 16) := ⟨⟨by decide +kernel, by decide +kernel⟩, List.mem_of_getElem? (i := 43) (by decide +kernel), List.mem_of_getElem? (i := 363) (by decide +kernel), List.mem_of_getElem? (i := 364) (by decide +kernel)⟩
theorem lw_p3 : lw_okq (⟨"HighlightPlaces$Text", "takeAt", "(I)I"⟩, 16) := ⟨⟨by decide +kernel, by decide +kernel⟩, List.mem_of_getElem? (i := 43) (by decide +kernel), List.mem_of_getElem? (i := 382) (by decide +kernel), List.mem_of_getElem? (i := 383) (by decide +kernel)⟩
theorem lw_p4 : lw_okq (⟨"HighlightPlaces$Text", "takeTag", "(I)I"⟩, 16) := ⟨⟨by decide +kernel, by decide +kernel⟩, List.mem_of_getElem? (i := 43) (by decide +kernel), List.mem_of_getElem? (i := 387) (by decide +kernel), List.mem_of_getElem? (i := 388) (by decide +kernel)⟩
theorem lw_p5 : lw_okq (⟨"HighlightPlaces$Text", "takeWordSign", "(II)Z"⟩, 16) := ⟨⟨by decide +kernel, by decide +kernel⟩, List.mem_of_getElem? (i := 43) (by decide +kernel), List.mem_of_getElem? (i := 424) (by decide +kernel), List.mem_of_getElem? (i := 425) (by decide +kernel)⟩
theorem lw_p6 : lw_okq (⟨"HighlightPlaces$Text", "beginWord", "(I)V"⟩, 16) := ⟨⟨by decide +kernel, by decide +kernel⟩, List.mem_of_getElem? (i := 43) (by decide +kernel), List.mem_of_getElem? (i := 432) (by decide +kernel), List.mem_of_getElem? (i := 433) (by decide +kernel)⟩
theorem lw_p7 : lw_okq (⟨"HighlightPlaces$Text", "nameLength", "(I)I"⟩, 16) := ⟨⟨by decide +kernel, by decide +kernel⟩, List.mem_of_getElem? (i := 43) (by decide +kernel), List.mem_of_getElem? (i := 446) (by decide +kernel), List.mem_of_getElem? (i := 447) (by decide +kernel)⟩
theorem lw_p8 : lw_okq (⟨"HighlightPlaces$Text", "takeOtherSign", "(II)V"⟩, 16) := ⟨⟨by decide +kernel, by decide +kernel⟩, List.mem_of_getElem? (i := 43) (by decide +kernel), List.mem_of_getElem? (i := 450) (by decide +kernel), List.mem_of_getElem? (i := 451) (by decide +kernel)⟩
theorem lw_p9 : lw_okq (⟨"HighlightPlaces$Match", "findWays", "()V"⟩, 17) := ⟨⟨by decide +kernel, by decide +kernel⟩, List.mem_of_getElem? (i := 37) (by decide +kernel), List.mem_of_getElem? (i := 468) (by decide +kernel), List.mem_of_getElem? (i := 469) (by decide +kernel)⟩
theorem lw_p10 : lw_okq (⟨"HighlightPlaces$Match", "findFits", "(I)V"⟩, 17) := ⟨⟨by decide +kernel, by decide +kernel⟩, List.mem_of_getElem? (i := 37) (by decide +kernel), List.mem_of_getElem? (i := 482) (by decide +kernel), List.mem_of_getElem? (i := 483) (by decide +kernel)⟩
theorem lw_p11 : lw_okq (⟨"HighlightPlaces$Match", "wordFits", "(II)Z"⟩, 17) := ⟨⟨by decide +kernel, by decide +kernel⟩, List.mem_of_getElem? (i := 37) (by decide +kernel), List.mem_of_getElem? (i := 487) (by decide +kernel), List.mem_of_getElem? (i := 488) (by decide +kernel)⟩
theorem lw_p12 : lw_okq (⟨"HighlightPlaces$Match", "hasOneError", "(IIII)Z"⟩, 17) := ⟨⟨by decide +kernel, by decide +kernel⟩, List.mem_of_getElem? (i := 37) (by decide +kernel), List.mem_of_getElem? (i := 494) (by decide +kernel), List.mem_of_getElem? (i := 495) (by decide +kernel)⟩
theorem lw_p13 : lw_okq (⟨"HighlightPlaces$Match", "sameAhead", "(II)I"⟩, 17) := ⟨⟨by decide +kernel, by decide +kernel⟩, List.mem_of_getElem? (i := 37) (by decide +kernel), List.mem_of_getElem? (i := 498) (by decide +kernel), List.mem_of_getElem? (i := 499) (by decide +kernel)⟩
theorem lw_p14 : lw_okq (⟨"HighlightPlaces$Match", "sameBehind", "(III)I"⟩, 17) := ⟨⟨by decide +kernel, by decide +kernel⟩, List.mem_of_getElem? (i := 37) (by decide +kernel), List.mem_of_getElem? (i := 502) (by decide +kernel), List.mem_of_getElem? (i := 503) (by decide +kernel)⟩
theorem lw_p15 : lw_okq (⟨"HighlightPlaces$Match", "findWaysFrom", "(II)Z"⟩, 17) := ⟨⟨by decide +kernel, by decide +kernel⟩, List.mem_of_getElem? (i := 37) (by decide +kernel), List.mem_of_getElem? (i := 514) (by decide +kernel), List.mem_of_getElem? (i := 515) (by decide +kernel)⟩
def lw_privs_1 : List (MethodName × Nat) := [(⟨"HighlightPlaces", "feedNumber", "(I)V"⟩, 7), (⟨"HighlightPlaces$Row", "makeRoom", "(I)V"⟩, 3), (⟨"HighlightPlaces$Text", "begin", "(LHighlightPlaces$Row;)V"⟩, 16), (⟨"HighlightPlaces$Text", "takeAt", "(I)I"⟩, 16), (⟨"HighlightPlaces$Text", "takeTag", "(I)I"⟩, 16), (⟨"HighlightPlaces$Text", "takeWordSign", "(II)Z"⟩, 16), (⟨"HighlightPlaces$Text", "beginWord", "(I)V"⟩, 16), (⟨"HighlightPlaces$Text", "nameLength", "(I)I"⟩, 16), (⟨"HighlightPlaces$Text", "takeOtherSign", "(II)V"⟩, 16), (⟨"HighlightPlaces$Match", "findWays", "()V"⟩, 17), (⟨"HighlightPlaces$Match", "findFits", "(I)V"⟩, 17), (⟨"HighlightPlaces$Match", "wordFits", "(II)Z"⟩, 17), (⟨"HighlightPlaces$Match", "hasOneError", "(IIII)Z"⟩, 17), (⟨"HighlightPlaces$Match", "sameAhead", "(II)I"⟩, 17), (⟨"HighlightPlaces$Match", "sameBehind", "(III)I"⟩, 17), (⟨"HighlightPlaces$Match", "findWaysFrom", "(II)Z"⟩, 17)]
theorem lw_r1 : ∀ q ∈ lw_privs_1, lw_okq q := List.forall_mem_cons.mpr ⟨lw_p0, List.forall_mem_cons.mpr ⟨lw_p1, List.forall_mem_cons.mpr ⟨lw_p2, List.forall_mem_cons.mpr ⟨lw_p3, List.forall_mem_cons.mpr ⟨lw_p4, List.forall_mem_cons.mpr ⟨lw_p5, List.forall_mem_cons.mpr ⟨lw_p6, List.forall_mem_cons.mpr ⟨lw_p7, List.forall_mem_cons.mpr ⟨lw_p8, List.forall_mem_cons.mpr ⟨lw_p9, List.forall_mem_cons.mpr ⟨lw_p10, List.forall_mem_cons.mpr ⟨lw_p11, List.forall_mem_cons.mpr ⟨lw_p12, List.forall_mem_cons.mpr ⟨lw_p13, List.forall_mem_cons.mpr ⟨lw_p14, List.forall_mem_cons.mpr ⟨lw_p15, fun _ h => absurd h List.not_mem_nil⟩⟩⟩⟩⟩⟩⟩⟩⟩⟩⟩⟩⟩⟩⟩⟩
theorem lw_p16 : lw_okq (⟨"HighlightPlaces$Match", "lastWithin", "(II)I"⟩, 17) := ⟨⟨by decide +kernel, by decide +kernel⟩, List.mem_of_getElem? (i := 37) (by decide +kernel), List.mem_of_getElem? (i := 518) (by decide +kernel), List.mem_of_getElem? (i := 519) (by decide +kernel)⟩
theorem lw_p17 : lw_okq (⟨"HighlightPlaces$Match", "findEarliest", "(III)Z"⟩, 17) := ⟨⟨by decide +kernel, by decide +kernel⟩, List.mem_of_getElem? (i := 37) (by decide +kernel), List.mem_of_getElem? (i := 522) (by decide +kernel), List.mem_of_getElem? (i := 523) (by decide +kernel)⟩
theorem lw_p18 : lw_okq (⟨"HighlightPlaces$Match", "findLatest", "(III)V"⟩, 17) := ⟨⟨by decide +kernel, by decide +kernel⟩, List.mem_of_getElem? (i := 37) (by decide +kernel), List.mem_of_getElem? (i := 527) (by decide +kernel), List.mem_of_getElem? (i := 528) (by decide +kernel)⟩
theorem lw_p19 : lw_okq (⟨"HighlightPlaces$Match", "findTruth", "()V"⟩, 17) := ⟨⟨by decide +kernel, by decide +kernel⟩, List.mem_of_getElem? (i := 37) (by decide +kernel), List.mem_of_getElem? (i := 532) (by decide +kernel), List.mem_of_getElem? (i := 533) (by decide +kernel)⟩
theorem lw_p20 : lw_okq (⟨"HighlightPlaces$Match", "findLit", "()V"⟩, 17) := ⟨⟨by decide +kernel, by decide +kernel⟩, List.mem_of_getElem? (i := 37) (by decide +kernel), List.mem_of_getElem? (i := 537) (by decide +kernel), List.mem_of_getElem? (i := 538) (by decide +kernel)⟩
theorem lw_p21 : lw_okq (⟨"HighlightPlaces$Match", "findMarked", "()V"⟩, 17) := ⟨⟨by decide +kernel, by decide +kernel⟩, List.mem_of_getElem? (i := 37) (by decide +kernel), List.mem_of_getElem? (i := 545) (by decide +kernel), List.mem_of_getElem? (i := 546) (by decide +kernel)⟩
theorem lw_p22 : lw_okq (⟨"HighlightPlaces$Match", "markLeaf", "(I)V"⟩, 17) := ⟨⟨by decide +kernel, by decide +kernel⟩, List.mem_of_getElem? (i := 37) (by decide +kernel), List.mem_of_getElem? (i := 549) (by decide +kernel), List.mem_of_getElem? (i := 550) (by decide +kernel)⟩
theorem lw_p23 : lw_okq (⟨"HighlightPlaces$Match", "findPlaces", "()V"⟩, 17) := ⟨⟨by decide +kernel, by decide +kernel⟩, List.mem_of_getElem? (i := 37) (by decide +kernel), List.mem_of_getElem? (i := 553) (by decide +kernel), List.mem_of_getElem? (i := 554) (by decide +kernel)⟩
theorem lw_p24 : lw_okq (⟨"HighlightPlaces$Match", "findScores", "()V"⟩, 17) := ⟨⟨by decide +kernel, by decide +kernel⟩, List.mem_of_getElem? (i := 37) (by decide +kernel), List.mem_of_getElem? (i := 557) (by decide +kernel), List.mem_of_getElem? (i := 558) (by decide +kernel)⟩
theorem lw_p25 : lw_okq (⟨"HighlightPlaces$Match", "hitsIn", "(II)I"⟩, 17) := ⟨⟨by decide +kernel, by decide +kernel⟩, List.mem_of_getElem? (i := 37) (by decide +kernel), List.mem_of_getElem? (i := 569) (by decide +kernel), List.mem_of_getElem? (i := 570) (by decide +kernel)⟩
theorem lw_p26 : lw_okq (⟨"HighlightPlaces$Query", "begin", "(LHighlightPlaces$Row;)V"⟩, 14) := ⟨⟨by decide +kernel, by decide +kernel⟩, List.mem_of_getElem? (i := 133) (by decide +kernel), List.mem_of_getElem? (i := 586) (by decide +kernel), List.mem_of_getElem? (i := 587) (by decide +kernel)⟩
theorem lw_p27 : lw_okq (⟨"HighlightPlaces$Query", "addNode", "(III)I"⟩, 14) := ⟨⟨by decide +kernel, by decide +kernel⟩, List.mem_of_getElem? (i := 133) (by decide +kernel), List.mem_of_getElem? (i := 594) (by decide +kernel), List.mem_of_getElem? (i := 595) (by decide +kernel)⟩
theorem lw_p28 : lw_okq (⟨"HighlightPlaces$Query", "takeOne", "(I)Z"⟩, 14) := ⟨⟨by decide +kernel, by decide +kernel⟩, List.mem_of_getElem? (i := 133) (by decide +kernel), List.mem_of_getElem? (i := 598) (by decide +kernel), List.mem_of_getElem? (i := 599) (by decide +kernel)⟩
theorem lw_p29 : lw_okq (⟨"HighlightPlaces$Query", "goDeeper", "(I)Z"⟩, 14) := ⟨⟨by decide +kernel, by decide +kernel⟩, List.mem_of_getElem? (i := 133) (by decide +kernel), List.mem_of_getElem? (i := 602) (by decide +kernel), List.mem_of_getElem? (i := 603) (by decide +kernel)⟩
theorem lw_p30 : lw_okq (⟨"HighlightPlaces$Query", "takeLeaf", "(I)Z"⟩, 14) := ⟨⟨by decide +kernel, by decide +kernel⟩, List.mem_of_getElem? (i := 133) (by decide +kernel), List.mem_of_getElem? (i := 607) (by decide +kernel), List.mem_of_getElem? (i := 608) (by decide +kernel)⟩
theorem lw_p31 : lw_okq (⟨"HighlightPlaces$Query", "takePhrase", "()Z"⟩, 14) := ⟨⟨by decide +kernel, by decide +kernel⟩, List.mem_of_getElem? (i := 133) (by decide +kernel), List.mem_of_getElem? (i := 611) (by decide +kernel), List.mem_of_getElem? (i := 612) (by decide +kernel)⟩
def lw_privs_2 : List (MethodName × Nat) := [(⟨"HighlightPlaces$Match", "lastWithin", "(II)I"⟩, 17), (⟨"HighlightPlaces$Match", "findEarliest", "(III)Z"⟩, 17), (⟨"HighlightPlaces$Match", "findLatest", "(III)V"⟩, 17), (⟨"HighlightPlaces$Match", "findTruth", "()V"⟩, 17), (⟨"HighlightPlaces$Match", "findLit", "()V"⟩, 17), (⟨"HighlightPlaces$Match", "findMarked", "()V"⟩, 17), (⟨"HighlightPlaces$Match", "markLeaf", "(I)V"⟩, 17), (⟨"HighlightPlaces$Match", "findPlaces", "()V"⟩, 17), (⟨"HighlightPlaces$Match", "findScores", "()V"⟩, 17), (⟨"HighlightPlaces$Match", "hitsIn", "(II)I"⟩, 17), (⟨"HighlightPlaces$Query", "begin", "(LHighlightPlaces$Row;)V"⟩, 14), (⟨"HighlightPlaces$Query", "addNode", "(III)I"⟩, 14), (⟨"HighlightPlaces$Query", "takeOne", "(I)Z"⟩, 14), (⟨"HighlightPlaces$Query", "goDeeper", "(I)Z"⟩, 14), (⟨"HighlightPlaces$Query", "takeLeaf", "(I)Z"⟩, 14), (⟨"HighlightPlaces$Query", "takePhrase", "()Z"⟩, 14)]
theorem lw_r2 : ∀ q ∈ lw_privs_2, lw_okq q := List.forall_mem_cons.mpr ⟨lw_p16, List.forall_mem_cons.mpr ⟨lw_p17, List.forall_mem_cons.mpr ⟨lw_p18, List.forall_mem_cons.mpr ⟨lw_p19, List.forall_mem_cons.mpr ⟨lw_p20, List.forall_mem_cons.mpr ⟨lw_p21, List.forall_mem_cons.mpr ⟨lw_p22, List.forall_mem_cons.mpr ⟨lw_p23, List.forall_mem_cons.mpr ⟨lw_p24, List.forall_mem_cons.mpr ⟨lw_p25, List.forall_mem_cons.mpr ⟨lw_p26, List.forall_mem_cons.mpr ⟨lw_p27, List.forall_mem_cons.mpr ⟨lw_p28, List.forall_mem_cons.mpr ⟨lw_p29, List.forall_mem_cons.mpr ⟨lw_p30, List.forall_mem_cons.mpr ⟨lw_p31, fun _ h => absurd h List.not_mem_nil⟩⟩⟩⟩⟩⟩⟩⟩⟩⟩⟩⟩⟩⟩⟩⟩
theorem lw_p32 : lw_okq (⟨"HighlightPlaces$Query", "skipBlanks", "()V"⟩, 14) := ⟨⟨by decide +kernel, by decide +kernel⟩, List.mem_of_getElem? (i := 133) (by decide +kernel), List.mem_of_getElem? (i := 615) (by decide +kernel), List.mem_of_getElem? (i := 616) (by decide +kernel)⟩
theorem lw_p33 : lw_okq (⟨"HighlightPlaces$Query", "takeTerm", "()Z"⟩, 14) := ⟨⟨by decide +kernel, by decide +kernel⟩, List.mem_of_getElem? (i := 133) (by decide +kernel), List.mem_of_getElem? (i := 619) (by decide +kernel), List.mem_of_getElem? (i := 620) (by decide +kernel)⟩
theorem lw_p34 : lw_okq (⟨"HighlightPlaces$Query", "takeKind", "(I)I"⟩, 14) := ⟨⟨by decide +kernel, by decide +kernel⟩, List.mem_of_getElem? (i := 133) (by decide +kernel), List.mem_of_getElem? (i := 624) (by decide +kernel), List.mem_of_getElem? (i := 625) (by decide +kernel)⟩
theorem lw_p35 : lw_okq (⟨"HighlightPlaces$Query", "termIsOver", "()Z"⟩, 14) := ⟨⟨by decide +kernel, by decide +kernel⟩, List.mem_of_getElem? (i := 133) (by decide +kernel), List.mem_of_getElem? (i := 628) (by decide +kernel), List.mem_of_getElem? (i := 629) (by decide +kernel)⟩
theorem lw_p36 : lw_okq (⟨"HighlightPlaces$Query", "takeRoom", "()I"⟩, 14) := ⟨⟨by decide +kernel, by decide +kernel⟩, List.mem_of_getElem? (i := 133) (by decide +kernel), List.mem_of_getElem? (i := 632) (by decide +kernel), List.mem_of_getElem? (i := 633) (by decide +kernel)⟩
theorem lw_p37 : lw_okq (⟨"HighlightPlaces$Query", "endOne", "()V"⟩, 14) := ⟨⟨by decide +kernel, by decide +kernel⟩, List.mem_of_getElem? (i := 133) (by decide +kernel), List.mem_of_getElem? (i := 639) (by decide +kernel), List.mem_of_getElem? (i := 640) (by decide +kernel)⟩
theorem lw_p38 : lw_okq (⟨"HighlightPlaces$Query", "takeJoint", "(I)Z"⟩, 14) := ⟨⟨by decide +kernel, by decide +kernel⟩, List.mem_of_getElem? (i := 133) (by decide +kernel), List.mem_of_getElem? (i := 643) (by decide +kernel), List.mem_of_getElem? (i := 644) (by decide +kernel)⟩
theorem lw_p39 : lw_okq (⟨"HighlightPlaces$Query", "closeAny", "(I)Z"⟩, 14) := ⟨⟨by decide +kernel, by decide +kernel⟩, List.mem_of_getElem? (i := 133) (by decide +kernel), List.mem_of_getElem? (i := 647) (by decide +kernel), List.mem_of_getElem? (i := 648) (by decide +kernel)⟩
theorem lw_p40 : lw_okq (⟨"HighlightPlaces$Choice", "bestLeft", "(LHighlightPlaces$Row;)I"⟩, 3) := ⟨⟨by decide +kernel, by decide +kernel⟩, List.mem_of_getElem? (i := 261) (by decide +kernel), List.mem_of_getElem? (i := 699) (by decide +kernel), List.mem_of_getElem? (i := 700) (by decide +kernel)⟩
theorem lw_p41 : lw_okq (⟨"HighlightPlaces$Choice", "gather", "()V"⟩, 3) := ⟨⟨by decide +kernel, by decide +kernel⟩, List.mem_of_getElem? (i := 261) (by decide +kernel), List.mem_of_getElem? (i := 705) (by decide +kernel), List.mem_of_getElem? (i := 706) (by decide +kernel)⟩
theorem lw_p42 : lw_okq (⟨"HighlightPlaces$Printer", "putOut", "(LHighlightPlaces$Match;II)V"⟩, 2) := ⟨⟨by decide +kernel, by decide +kernel⟩, List.mem_of_getElem? (i := 283) (by decide +kernel), List.mem_of_getElem? (i := 725) (by decide +kernel), List.mem_of_getElem? (i := 726) (by decide +kernel)⟩
theorem lw_p43 : lw_okq (⟨"HighlightPlaces$Printer", "openAhead", "(LHighlightPlaces$Row;I)V"⟩, 2) := ⟨⟨by decide +kernel, by decide +kernel⟩, List.mem_of_getElem? (i := 283) (by decide +kernel), List.mem_of_getElem? (i := 729) (by decide +kernel), List.mem_of_getElem? (i := 730) (by decide +kernel)⟩
theorem lw_p44 : lw_okq (⟨"HighlightPlaces$Printer", "putLetters", "(LHighlightPlaces$Row;I)V"⟩, 2) := ⟨⟨by decide +kernel, by decide +kernel⟩, List.mem_of_getElem? (i := 283) (by decide +kernel), List.mem_of_getElem? (i := 736) (by decide +kernel), List.mem_of_getElem? (i := 737) (by decide +kernel)⟩
theorem lw_p45 : lw_okq (⟨"HighlightPlaces$Printer", "putBytes", "(LHighlightPlaces$Match;II)V"⟩, 2) := ⟨⟨by decide +kernel, by decide +kernel⟩, List.mem_of_getElem? (i := 283) (by decide +kernel), List.mem_of_getElem? (i := 741) (by decide +kernel), List.mem_of_getElem? (i := 742) (by decide +kernel)⟩
theorem lw_p46 : lw_okq (⟨"HighlightPlaces$Printer", "putMark", "(ZZ)V"⟩, 2) := ⟨⟨by decide +kernel, by decide +kernel⟩, List.mem_of_getElem? (i := 283) (by decide +kernel), List.mem_of_getElem? (i := 753) (by decide +kernel), List.mem_of_getElem? (i := 754) (by decide +kernel)⟩
theorem lw_p47 : lw_okq (⟨"HighlightPlaces$Printer", "closeBehind", "(LHighlightPlaces$Row;)V"⟩, 2) := ⟨⟨by decide +kernel, by decide +kernel⟩, List.mem_of_getElem? (i := 283) (by decide +kernel), List.mem_of_getElem? (i := 757) (by decide +kernel), List.mem_of_getElem? (i := 758) (by decide +kernel)⟩
def lw_privs_3 : List (MethodName × Nat) := [(⟨"HighlightPlaces$Query", "skipBlanks", "()V"⟩, 14), (⟨"HighlightPlaces$Query", "takeTerm", "()Z"⟩, 14), (⟨"HighlightPlaces$Query", "takeKind", "(I)I"⟩, 14), (⟨"HighlightPlaces$Query", "termIsOver", "()Z"⟩, 14), (⟨"HighlightPlaces$Query", "takeRoom", "()I"⟩, 14), (⟨"HighlightPlaces$Query", "endOne", "()V"⟩, 14), (⟨"HighlightPlaces$Query", "takeJoint", "(I)Z"⟩, 14), (⟨"HighlightPlaces$Query", "closeAny", "(I)Z"⟩, 14), (⟨"HighlightPlaces$Choice", "bestLeft", "(LHighlightPlaces$Row;)I"⟩, 3), (⟨"HighlightPlaces$Choice", "gather", "()V"⟩, 3), (⟨"HighlightPlaces$Printer", "putOut", "(LHighlightPlaces$Match;II)V"⟩, 2), (⟨"HighlightPlaces$Printer", "openAhead", "(LHighlightPlaces$Row;I)V"⟩, 2), (⟨"HighlightPlaces$Printer", "putLetters", "(LHighlightPlaces$Row;I)V"⟩, 2), (⟨"HighlightPlaces$Printer", "putBytes", "(LHighlightPlaces$Match;II)V"⟩, 2), (⟨"HighlightPlaces$Printer", "putMark", "(ZZ)V"⟩, 2), (⟨"HighlightPlaces$Printer", "closeBehind", "(LHighlightPlaces$Row;)V"⟩, 2)]
theorem lw_r3 : ∀ q ∈ lw_privs_3, lw_okq q := List.forall_mem_cons.mpr ⟨lw_p32, List.forall_mem_cons.mpr ⟨lw_p33, List.forall_mem_cons.mpr ⟨lw_p34, List.forall_mem_cons.mpr ⟨lw_p35, List.forall_mem_cons.mpr ⟨lw_p36, List.forall_mem_cons.mpr ⟨lw_p37, List.forall_mem_cons.mpr ⟨lw_p38, List.forall_mem_cons.mpr ⟨lw_p39, List.forall_mem_cons.mpr ⟨lw_p40, List.forall_mem_cons.mpr ⟨lw_p41, List.forall_mem_cons.mpr ⟨lw_p42, List.forall_mem_cons.mpr ⟨lw_p43, List.forall_mem_cons.mpr ⟨lw_p44, List.forall_mem_cons.mpr ⟨lw_p45, List.forall_mem_cons.mpr ⟨lw_p46, List.forall_mem_cons.mpr ⟨lw_p47, fun _ h => absurd h List.not_mem_nil⟩⟩⟩⟩⟩⟩⟩⟩⟩⟩⟩⟩⟩⟩⟩⟩
theorem lw_p48 : lw_okq (⟨"HighlightPlacesModel", "work", "()V"⟩, 74) := ⟨⟨by decide +kernel, by decide +kernel⟩, List.mem_of_getElem? (i := 775) (by decide +kernel), List.mem_of_getElem? (i := 781) (by decide +kernel), List.mem_of_getElem? (i := 782) (by decide +kernel)⟩
theorem lw_p49 : lw_okq (⟨"HighlightPlacesModel", "looked", "()I"⟩, 74) := ⟨⟨by decide +kernel, by decide +kernel⟩, List.mem_of_getElem? (i := 775) (by decide +kernel), List.mem_of_getElem? (i := 785) (by decide +kernel), List.mem_of_getElem? (i := 786) (by decide +kernel)⟩
theorem lw_p50 : lw_okq (⟨"HighlightPlacesModel", "ways", "(II)Z"⟩, 74) := ⟨⟨by decide +kernel, by decide +kernel⟩, List.mem_of_getElem? (i := 775) (by decide +kernel), List.mem_of_getElem? (i := 789) (by decide +kernel), List.mem_of_getElem? (i := 790) (by decide +kernel)⟩
theorem lw_p51 : lw_okq (⟨"HighlightPlacesModel", "fits", "(II)Z"⟩, 74) := ⟨⟨by decide +kernel, by decide +kernel⟩, List.mem_of_getElem? (i := 775) (by decide +kernel), List.mem_of_getElem? (i := 793) (by decide +kernel), List.mem_of_getElem? (i := 794) (by decide +kernel)⟩
theorem lw_p52 : lw_okq (⟨"HighlightPlacesModel", "sizeOf", "(I)I"⟩, 74) := ⟨⟨by decide +kernel, by decide +kernel⟩, List.mem_of_getElem? (i := 775) (by decide +kernel), List.mem_of_getElem? (i := 797) (by decide +kernel), List.mem_of_getElem? (i := 798) (by decide +kernel)⟩
theorem lw_p53 : lw_okq (⟨"HighlightPlacesModel", "letterOf", "(II)I"⟩, 74) := ⟨⟨by decide +kernel, by decide +kernel⟩, List.mem_of_getElem? (i := 775) (by decide +kernel), List.mem_of_getElem? (i := 801) (by decide +kernel), List.mem_of_getElem? (i := 802) (by decide +kernel)⟩
theorem lw_p54 : lw_okq (⟨"HighlightPlacesModel", "mark", "()V"⟩, 74) := ⟨⟨by decide +kernel, by decide +kernel⟩, List.mem_of_getElem? (i := 775) (by decide +kernel), List.mem_of_getElem? (i := 808) (by decide +kernel), List.mem_of_getElem? (i := 809) (by decide +kernel)⟩
theorem lw_p55 : lw_okq (⟨"HighlightPlacesModel", "fault", "()I"⟩, 74) := ⟨⟨by decide +kernel, by decide +kernel⟩, List.mem_of_getElem? (i := 775) (by decide +kernel), List.mem_of_getElem? (i := 1048) (by decide +kernel), List.mem_of_getElem? (i := 1049) (by decide +kernel)⟩
theorem lw_p56 : lw_okq (⟨"HighlightPlacesModel", "isTag", "(I)Z"⟩, 74) := ⟨⟨by decide +kernel, by decide +kernel⟩, List.mem_of_getElem? (i := 775) (by decide +kernel), List.mem_of_getElem? (i := 1052) (by decide +kernel), List.mem_of_getElem? (i := 1053) (by decide +kernel)⟩
theorem lw_p57 : lw_okq (⟨"HighlightPlacesModel", "named", "(I)I"⟩, 74) := ⟨⟨by decide +kernel, by decide +kernel⟩, List.mem_of_getElem? (i := 775) (by decide +kernel), List.mem_of_getElem? (i := 1062) (by decide +kernel), List.mem_of_getElem? (i := 1063) (by decide +kernel)⟩
theorem lw_p58 : lw_okq (⟨"HighlightPlacesModel", "take", "()V"⟩, 74) := ⟨⟨by decide +kernel, by decide +kernel⟩, List.mem_of_getElem? (i := 775) (by decide +kernel), List.mem_of_getElem? (i := 1069) (by decide +kernel), List.mem_of_getElem? (i := 1070) (by decide +kernel)⟩
theorem lw_p59 : lw_okq (⟨"HighlightPlacesModel", "findWords", "()V"⟩, 74) := ⟨⟨by decide +kernel, by decide +kernel⟩, List.mem_of_getElem? (i := 775) (by decide +kernel), List.mem_of_getElem? (i := 1073) (by decide +kernel), List.mem_of_getElem? (i := 1074) (by decide +kernel)⟩
theorem lw_p60 : lw_okq (⟨"HighlightPlacesModel", "isPart", "(I)Z"⟩, 74) := ⟨⟨by decide +kernel, by decide +kernel⟩, List.mem_of_getElem? (i := 775) (by decide +kernel), List.mem_of_getElem? (i := 1077) (by decide +kernel), List.mem_of_getElem? (i := 1078) (by decide +kernel)⟩
theorem lw_p61 : lw_okq (⟨"HighlightPlacesModel", "readQuery", "()V"⟩, 74) := ⟨⟨by decide +kernel, by decide +kernel⟩, List.mem_of_getElem? (i := 775) (by decide +kernel), List.mem_of_getElem? (i := 1085) (by decide +kernel), List.mem_of_getElem? (i := 1086) (by decide +kernel)⟩
theorem lw_p62 : lw_okq (⟨"HighlightPlacesModel", "blanks", "()V"⟩, 74) := ⟨⟨by decide +kernel, by decide +kernel⟩, List.mem_of_getElem? (i := 775) (by decide +kernel), List.mem_of_getElem? (i := 1089) (by decide +kernel), List.mem_of_getElem? (i := 1090) (by decide +kernel)⟩
theorem lw_p63 : lw_okq (⟨"HighlightPlacesModel", "peek", "()I"⟩, 74) := ⟨⟨by decide +kernel, by decide +kernel⟩, List.mem_of_getElem? (i := 775) (by decide +kernel), List.mem_of_getElem? (i := 1093) (by decide +kernel), List.mem_of_getElem? (i := 1094) (by decide +kernel)⟩
def lw_privs_4 : List (MethodName × Nat) := [(⟨"HighlightPlacesModel", "work", "()V"⟩, 74), (⟨"HighlightPlacesModel", "looked", "()I"⟩, 74), (⟨"HighlightPlacesModel", "ways", "(II)Z"⟩, 74), (⟨"HighlightPlacesModel", "fits", "(II)Z"⟩, 74), (⟨"HighlightPlacesModel", "sizeOf", "(I)I"⟩, 74), (⟨"HighlightPlacesModel", "letterOf", "(II)I"⟩, 74), (⟨"HighlightPlacesModel", "mark", "()V"⟩, 74), (⟨"HighlightPlacesModel", "fault", "()I"⟩, 74), (⟨"HighlightPlacesModel", "isTag", "(I)Z"⟩, 74), (⟨"HighlightPlacesModel", "named", "(I)I"⟩, 74), (⟨"HighlightPlacesModel", "take", "()V"⟩, 74), (⟨"HighlightPlacesModel", "findWords", "()V"⟩, 74), (⟨"HighlightPlacesModel", "isPart", "(I)Z"⟩, 74), (⟨"HighlightPlacesModel", "readQuery", "()V"⟩, 74), (⟨"HighlightPlacesModel", "blanks", "()V"⟩, 74), (⟨"HighlightPlacesModel", "peek", "()I"⟩, 74)]
theorem lw_r4 : ∀ q ∈ lw_privs_4, lw_okq q := List.forall_mem_cons.mpr ⟨lw_p48, List.forall_mem_cons.mpr ⟨lw_p49, List.forall_mem_cons.mpr ⟨lw_p50, List.forall_mem_cons.mpr ⟨lw_p51, List.forall_mem_cons.mpr ⟨lw_p52, List.forall_mem_cons.mpr ⟨lw_p53, List.forall_mem_cons.mpr ⟨lw_p54, List.forall_mem_cons.mpr ⟨lw_p55, List.forall_mem_cons.mpr ⟨lw_p56, List.forall_mem_cons.mpr ⟨lw_p57, List.forall_mem_cons.mpr ⟨lw_p58, List.forall_mem_cons.mpr ⟨lw_p59, List.forall_mem_cons.mpr ⟨lw_p60, List.forall_mem_cons.mpr ⟨lw_p61, List.forall_mem_cons.mpr ⟨lw_p62, List.forall_mem_cons.mpr ⟨lw_p63, fun _ h => absurd h List.not_mem_nil⟩⟩⟩⟩⟩⟩⟩⟩⟩⟩⟩⟩⟩⟩⟩⟩
theorem lw_p64 : lw_okq (⟨"HighlightPlacesModel", "readOne", "()V"⟩, 74) := ⟨⟨by decide +kernel, by decide +kernel⟩, List.mem_of_getElem? (i := 775) (by decide +kernel), List.mem_of_getElem? (i := 1097) (by decide +kernel), List.mem_of_getElem? (i := 1098) (by decide +kernel)⟩
theorem lw_p65 : lw_okq (⟨"HighlightPlacesModel", "nested", "()I"⟩, 74) := ⟨⟨by decide +kernel, by decide +kernel⟩, List.mem_of_getElem? (i := 775) (by decide +kernel), List.mem_of_getElem? (i := 1101) (by decide +kernel), List.mem_of_getElem? (i := 1102) (by decide +kernel)⟩
theorem lw_p66 : lw_okq (⟨"HighlightPlacesModel", "readPhrase", "()V"⟩, 74) := ⟨⟨by decide +kernel, by decide +kernel⟩, List.mem_of_getElem? (i := 775) (by decide +kernel), List.mem_of_getElem? (i := 1105) (by decide +kernel), List.mem_of_getElem? (i := 1106) (by decide +kernel)⟩
theorem lw_p67 : lw_okq (⟨"HighlightPlacesModel", "readTerm", "()V"⟩, 74) := ⟨⟨by decide +kernel, by decide +kernel⟩, List.mem_of_getElem? (i := 775) (by decide +kernel), List.mem_of_getElem? (i := 1109) (by decide +kernel), List.mem_of_getElem? (i := 1110) (by decide +kernel)⟩
theorem lw_p68 : lw_okq (⟨"HighlightPlacesModel", "node", "(III)V"⟩, 74) := ⟨⟨by decide +kernel, by decide +kernel⟩, List.mem_of_getElem? (i := 775) (by decide +kernel), List.mem_of_getElem? (i := 1113) (by decide +kernel), List.mem_of_getElem? (i := 1114) (by decide +kernel)⟩
theorem lw_p69 : lw_okq (⟨"HighlightPlacesModel", "complete", "()V"⟩, 74) := ⟨⟨by decide +kernel, by decide +kernel⟩, List.mem_of_getElem? (i := 775) (by decide +kernel), List.mem_of_getElem? (i := 1117) (by decide +kernel), List.mem_of_getElem? (i := 1118) (by decide +kernel)⟩
theorem lw_p70 : lw_okq (⟨"HighlightPlacesModel", "readOp", "()V"⟩, 74) := ⟨⟨by decide +kernel, by decide +kernel⟩, List.mem_of_getElem? (i := 775) (by decide +kernel), List.mem_of_getElem? (i := 1121) (by decide +kernel), List.mem_of_getElem? (i := 1122) (by decide +kernel)⟩
theorem lw_p71 : lw_okq (⟨"HighlightPlacesModel", "reduce", "(I)V"⟩, 74) := ⟨⟨by decide +kernel, by decide +kernel⟩, List.mem_of_getElem? (i := 775) (by decide +kernel), List.mem_of_getElem? (i := 1125) (by decide +kernel), List.mem_of_getElem? (i := 1126) (by decide +kernel)⟩
theorem lw_p72 : lw_okq (⟨"HighlightPlacesModel", "isWordNumber", "(I)Z"⟩, 74) := ⟨⟨by decide +kernel, by decide +kernel⟩, List.mem_of_getElem? (i := 775) (by decide +kernel), List.mem_of_getElem? (i := 1141) (by decide +kernel), List.mem_of_getElem? (i := 1142) (by decide +kernel)⟩
theorem lw_p73 : lw_okq (⟨"HighlightPlacesModel", "score", "(I)I"⟩, 74) := ⟨⟨by decide +kernel, by decide +kernel⟩, List.mem_of_getElem? (i := 775) (by decide +kernel), List.mem_of_getElem? (i := 1153) (by decide +kernel), List.mem_of_getElem? (i := 1154) (by decide +kernel)⟩
theorem lw_p74 : lw_okq (⟨"HighlightPlacesModel", "sentenceEnd", "(I)I"⟩, 74) := ⟨⟨by decide +kernel, by decide +kernel⟩, List.mem_of_getElem? (i := 775) (by decide +kernel), List.mem_of_getElem? (i := 1157) (by decide +kernel), List.mem_of_getElem? (i := 1158) (by decide +kernel)⟩
theorem lw_p75 : lw_okq (⟨"HighlightPlacesModel", "places", "()I"⟩, 74) := ⟨⟨by decide +kernel, by decide +kernel⟩, List.mem_of_getElem? (i := 775) (by decide +kernel), List.mem_of_getElem? (i := 1169) (by decide +kernel), List.mem_of_getElem? (i := 1170) (by decide +kernel)⟩
theorem lw_p76 : lw_okq (⟨"HighlightPlacesModel", "begins", "(I)Z"⟩, 74) := ⟨⟨by decide +kernel, by decide +kernel⟩, List.mem_of_getElem? (i := 775) (by decide +kernel), List.mem_of_getElem? (i := 1173) (by decide +kernel), List.mem_of_getElem? (i := 1174) (by decide +kernel)⟩
theorem lw_p77 : lw_okq (⟨"HighlightPlacesModel", "lastOf", "(I)I"⟩, 74) := ⟨⟨by decide +kernel, by decide +kernel⟩, List.mem_of_getElem? (i := 775) (by decide +kernel), List.mem_of_getElem? (i := 1177) (by decide +kernel), List.mem_of_getElem? (i := 1178) (by decide +kernel)⟩
theorem lw_p78 : lw_okq (⟨"HighlightPlacesModel", "putOut", "(II)V"⟩, 74) := ⟨⟨by decide +kernel, by decide +kernel⟩, List.mem_of_getElem? (i := 775) (by decide +kernel), List.mem_of_getElem? (i := 1193) (by decide +kernel), List.mem_of_getElem? (i := 1194) (by decide +kernel)⟩
theorem lw_p79 : lw_okq (⟨"HighlightPlacesModel", "openBefore", "(I)I"⟩, 74) := ⟨⟨by decide +kernel, by decide +kernel⟩, List.mem_of_getElem? (i := 775) (by decide +kernel), List.mem_of_getElem? (i := 1197) (by decide +kernel), List.mem_of_getElem? (i := 1198) (by decide +kernel)⟩
def lw_privs_5 : List (MethodName × Nat) := [(⟨"HighlightPlacesModel", "readOne", "()V"⟩, 74), (⟨"HighlightPlacesModel", "nested", "()I"⟩, 74), (⟨"HighlightPlacesModel", "readPhrase", "()V"⟩, 74), (⟨"HighlightPlacesModel", "readTerm", "()V"⟩, 74), (⟨"HighlightPlacesModel", "node", "(III)V"⟩, 74), (⟨"HighlightPlacesModel", "complete", "()V"⟩, 74), (⟨"HighlightPlacesModel", "readOp", "()V"⟩, 74), (⟨"HighlightPlacesModel", "reduce", "(I)V"⟩, 74), (⟨"HighlightPlacesModel", "isWordNumber", "(I)Z"⟩, 74), (⟨"HighlightPlacesModel", "score", "(I)I"⟩, 74), (⟨"HighlightPlacesModel", "sentenceEnd", "(I)I"⟩, 74), (⟨"HighlightPlacesModel", "places", "()I"⟩, 74), (⟨"HighlightPlacesModel", "begins", "(I)Z"⟩, 74), (⟨"HighlightPlacesModel", "lastOf", "(I)I"⟩, 74), (⟨"HighlightPlacesModel", "putOut", "(II)V"⟩, 74), (⟨"HighlightPlacesModel", "openBefore", "(I)I"⟩, 74)]
theorem lw_r5 : ∀ q ∈ lw_privs_5, lw_okq q := List.forall_mem_cons.mpr ⟨lw_p64, List.forall_mem_cons.mpr ⟨lw_p65, List.forall_mem_cons.mpr ⟨lw_p66, List.forall_mem_cons.mpr ⟨lw_p67, List.forall_mem_cons.mpr ⟨lw_p68, List.forall_mem_cons.mpr ⟨lw_p69, List.forall_mem_cons.mpr ⟨lw_p70, List.forall_mem_cons.mpr ⟨lw_p71, List.forall_mem_cons.mpr ⟨lw_p72, List.forall_mem_cons.mpr ⟨lw_p73, List.forall_mem_cons.mpr ⟨lw_p74, List.forall_mem_cons.mpr ⟨lw_p75, List.forall_mem_cons.mpr ⟨lw_p76, List.forall_mem_cons.mpr ⟨lw_p77, List.forall_mem_cons.mpr ⟨lw_p78, List.forall_mem_cons.mpr ⟨lw_p79, fun _ h => absurd h List.not_mem_nil⟩⟩⟩⟩⟩⟩⟩⟩⟩⟩⟩⟩⟩⟩⟩⟩
theorem lw_p80 : lw_okq (⟨"HighlightPlacesModel", "say", "(I)V"⟩, 74) := ⟨⟨by decide +kernel, by decide +kernel⟩, List.mem_of_getElem? (i := 775) (by decide +kernel), List.mem_of_getElem? (i := 1201) (by decide +kernel), List.mem_of_getElem? (i := 1202) (by decide +kernel)⟩
theorem lw_p81 : lw_okq (⟨"HighlightPlacesModel", "placeOf", "(I)I"⟩, 74) := ⟨⟨by decide +kernel, by decide +kernel⟩, List.mem_of_getElem? (i := 775) (by decide +kernel), List.mem_of_getElem? (i := 1205) (by decide +kernel), List.mem_of_getElem? (i := 1206) (by decide +kernel)⟩
def lw_privs_6 : List (MethodName × Nat) := [(⟨"HighlightPlacesModel", "say", "(I)V"⟩, 74), (⟨"HighlightPlacesModel", "placeOf", "(I)I"⟩, 74)]
theorem lw_r6 : ∀ q ∈ lw_privs_6, lw_okq q := List.forall_mem_cons.mpr ⟨lw_p80, List.forall_mem_cons.mpr ⟨lw_p81, fun _ h => absurd h List.not_mem_nil⟩⟩
def lw_privs : List (MethodName × Nat) := lw_privs_1 ++ (lw_privs_2 ++ (lw_privs_3 ++ (lw_privs_4 ++ (lw_privs_5 ++ (lw_privs_6)))))
def lw_tbl : List Cond := k2_sels lw_privs ++ tables_1
theorem lw_privs_ok : ∀ q ∈ lw_privs, lw_okq q := by
  show ∀ q ∈ lw_privs_1 ++ (lw_privs_2 ++ (lw_privs_3 ++ (lw_privs_4 ++ (lw_privs_5 ++ (lw_privs_6))))), lw_okq q
  exact List.forall_mem_append.mpr ⟨lw_r1, List.forall_mem_append.mpr ⟨lw_r2, List.forall_mem_append.mpr ⟨lw_r3, List.forall_mem_append.mpr ⟨lw_r4, List.forall_mem_append.mpr ⟨lw_r5, lw_r6⟩⟩⟩⟩⟩
def RX0 : String := "HighlightPlaces$Choice"
def TX0 : u_T := fun k => match k with
  | 0 => ("HighlightPlaces$Choice", "firsts", "LHighlightPlaces$Row;", true)
  | 1 => ("HighlightPlaces$Choice", "lasts", "LHighlightPlaces$Row;", true)
  | _ => ("HighlightPlaces$Choice", "chosen", "LHighlightPlaces$Row;", true)
def tyX0 : Nat → FieldType := fun k => match k with
  | 0 => .object "HighlightPlaces$Row"
  | 1 => .object "HighlightPlaces$Row"
  | _ => .object "HighlightPlaces$Row"
abbrev wsX00 : List Cond := u_ws RX0 TX0 3
theorem nmX0 : ∀ a, a < 3 → ∀ b, b < 3 → a ≠ b → (TX0 a).2.1 ≠ (TX0 b).2.1 := by decide +kernel
theorem tyX0_ok : ∀ k, k < 3 → parseFieldDescriptor (TX0 k).2.2.1 = some (tyX0 k) := by decide +kernel
abbrev cX0_init : ByteArray := prog_2_method_1_code
def yX0_init : MethodName := ⟨RX0, "<init>", "()V"⟩
abbrev cX0_clear : ByteArray := prog_2_method_2_code
def yX0_clear : MethodName := ⟨RX0, "clear", "()V"⟩
abbrev cX0_choose : ByteArray := prog_2_method_3_code
def yX0_choose : MethodName := ⟨RX0, "choose", "(LHighlightPlaces$Row;I)V"⟩
abbrev cX0_bestLeft : ByteArray := prog_2_method_4_code
def yX0_bestLeft : MethodName := ⟨RX0, "bestLeft", "(LHighlightPlaces$Row;)I"⟩
abbrev cX0_gather : ByteArray := prog_2_method_5_code
def yX0_gather : MethodName := ⟨RX0, "gather", "()V"⟩
def RX1 : String := "HighlightPlaces$Match"
def TX1 : u_T := fun k => match k with
  | 0 => ("HighlightPlaces$Match", "text", "LHighlightPlaces$Text;", false)
  | 1 => ("HighlightPlaces$Match", "query", "LHighlightPlaces$Query;", false)
  | 2 => ("HighlightPlaces$Match", "leafCounts", "LHighlightPlaces$Row;", true)
  | 3 => ("HighlightPlaces$Match", "leafLit", "LHighlightPlaces$Row;", true)
  | 4 => ("HighlightPlaces$Match", "marked", "LHighlightPlaces$Row;", true)
  | 5 => ("HighlightPlaces$Match", "placeFirst", "LHighlightPlaces$Row;", true)
  | 6 => ("HighlightPlaces$Match", "placeLast", "LHighlightPlaces$Row;", true)
  | 7 => ("HighlightPlaces$Match", "scores", "LHighlightPlaces$Row;", true)
  | 8 => ("HighlightPlaces$Match", "fits", "LHighlightPlaces$Row;", true)
  | 9 => ("HighlightPlaces$Match", "firsts", "LHighlightPlaces$Row;", true)
  | 10 => ("HighlightPlaces$Match", "inWays", "LHighlightPlaces$Row;", true)
  | 11 => ("HighlightPlaces$Match", "joined", "LHighlightPlaces$Row;", true)
  | 12 => ("HighlightPlaces$Match", "earliest", "LHighlightPlaces$Row;", true)
  | 13 => ("HighlightPlaces$Match", "latest", "LHighlightPlaces$Row;", true)
  | 14 => ("HighlightPlaces$Match", "nodeTrue", "LHighlightPlaces$Row;", true)
  | 15 => ("HighlightPlaces$Match", "nodeLit", "LHighlightPlaces$Row;", true)
  | _ => ("HighlightPlaces$Match", "looked", "I", false)
def tyX1 : Nat → FieldType := fun k => match k with
  | 0 => .object "HighlightPlaces$Text"
  | 1 => .object "HighlightPlaces$Query"
  | 2 => .object "HighlightPlaces$Row"
  | 3 => .object "HighlightPlaces$Row"
  | 4 => .object "HighlightPlaces$Row"
  | 5 => .object "HighlightPlaces$Row"
  | 6 => .object "HighlightPlaces$Row"
  | 7 => .object "HighlightPlaces$Row"
  | 8 => .object "HighlightPlaces$Row"
  | 9 => .object "HighlightPlaces$Row"
  | 10 => .object "HighlightPlaces$Row"
  | 11 => .object "HighlightPlaces$Row"
  | 12 => .object "HighlightPlaces$Row"
  | 13 => .object "HighlightPlaces$Row"
  | 14 => .object "HighlightPlaces$Row"
  | 15 => .object "HighlightPlaces$Row"
  | _ => .int
abbrev wsX10 : List Cond := u_ws RX1 TX1 17
theorem nmX1 : ∀ a, a < 17 → ∀ b, b < 17 → a ≠ b → (TX1 a).2.1 ≠ (TX1 b).2.1 := by decide +kernel
theorem tyX1_ok : ∀ k, k < 17 → parseFieldDescriptor (TX1 k).2.2.1 = some (tyX1 k) := by decide +kernel
abbrev cX1_init : ByteArray := prog_3_method_1_code
def yX1_init : MethodName := ⟨RX1, "<init>", "()V"⟩
abbrev cX1_isTrue : ByteArray := prog_3_method_2_code
def yX1_isTrue : MethodName := ⟨RX1, "isTrue", "()I"⟩
abbrev cX1_weightOf : ByteArray := prog_3_method_3_code
def yX1_weightOf : MethodName := ⟨RX1, "weightOf", "(I)I"⟩
abbrev cX1_placeStart : ByteArray := prog_3_method_4_code
def yX1_placeStart : MethodName := ⟨RX1, "placeStart", "(I)I"⟩
abbrev cX1_placeEnd : ByteArray := prog_3_method_5_code
def yX1_placeEnd : MethodName := ⟨RX1, "placeEnd", "(I)I"⟩
abbrev cX1_judge : ByteArray := prog_3_method_6_code
def yX1_judge : MethodName := ⟨RX1, "judge", "(I)V"⟩
abbrev cX1_findWays : ByteArray := prog_3_method_7_code
def yX1_findWays : MethodName := ⟨RX1, "findWays", "()V"⟩
abbrev cX1_findFits : ByteArray := prog_3_method_8_code
def yX1_findFits : MethodName := ⟨RX1, "findFits", "(I)V"⟩
abbrev cX1_wordFits : ByteArray := prog_3_method_9_code
def yX1_wordFits : MethodName := ⟨RX1, "wordFits", "(II)Z"⟩
abbrev cX1_hasOneError : ByteArray := prog_3_method_10_code
def yX1_hasOneError : MethodName := ⟨RX1, "hasOneError", "(IIII)Z"⟩
abbrev cX1_sameAhead : ByteArray := prog_3_method_11_code
def yX1_sameAhead : MethodName := ⟨RX1, "sameAhead", "(II)I"⟩
abbrev cX1_sameBehind : ByteArray := prog_3_method_12_code
def yX1_sameBehind : MethodName := ⟨RX1, "sameBehind", "(III)I"⟩
abbrev cX1_findWaysFrom : ByteArray := prog_3_method_13_code
def yX1_findWaysFrom : MethodName := ⟨RX1, "findWaysFrom", "(II)Z"⟩
abbrev cX1_lastWithin : ByteArray := prog_3_method_14_code
def yX1_lastWithin : MethodName := ⟨RX1, "lastWithin", "(II)I"⟩
abbrev cX1_findEarliest : ByteArray := prog_3_method_15_code
def yX1_findEarliest : MethodName := ⟨RX1, "findEarliest", "(III)Z"⟩
abbrev cX1_findLatest : ByteArray := prog_3_method_16_code
def yX1_findLatest : MethodName := ⟨RX1, "findLatest", "(III)V"⟩
abbrev cX1_findTruth : ByteArray := prog_3_method_17_code
def yX1_findTruth : MethodName := ⟨RX1, "findTruth", "()V"⟩
abbrev cX1_findLit : ByteArray := prog_3_method_18_code
def yX1_findLit : MethodName := ⟨RX1, "findLit", "()V"⟩
abbrev cX1_findMarked : ByteArray := prog_3_method_19_code
def yX1_findMarked : MethodName := ⟨RX1, "findMarked", "()V"⟩
abbrev cX1_markLeaf : ByteArray := prog_3_method_20_code
def yX1_markLeaf : MethodName := ⟨RX1, "markLeaf", "(I)V"⟩
abbrev cX1_findPlaces : ByteArray := prog_3_method_21_code
def yX1_findPlaces : MethodName := ⟨RX1, "findPlaces", "()V"⟩
abbrev cX1_findScores : ByteArray := prog_3_method_22_code
def yX1_findScores : MethodName := ⟨RX1, "findScores", "()V"⟩
abbrev cX1_hitsIn : ByteArray := prog_3_method_23_code
def yX1_hitsIn : MethodName := ⟨RX1, "hitsIn", "(II)I"⟩
def RX2 : String := "HighlightPlaces$Printer"
def TX2 : u_T := fun k => match k with
  | 0 => ("HighlightPlaces$Printer", "out", "LHighlightPlaces$Row;", true)
  | _ => ("HighlightPlaces$Printer", "open", "LHighlightPlaces$Tags;", true)
def tyX2 : Nat → FieldType := fun k => match k with
  | 0 => .object "HighlightPlaces$Row"
  | _ => .object "HighlightPlaces$Tags"
abbrev wsX20 : List Cond := u_ws RX2 TX2 2
theorem nmX2 : ∀ a, a < 2 → ∀ b, b < 2 → a ≠ b → (TX2 a).2.1 ≠ (TX2 b).2.1 := by decide +kernel
theorem tyX2_ok : ∀ k, k < 2 → parseFieldDescriptor (TX2 k).2.2.1 = some (tyX2 k) := by decide +kernel
abbrev cX2_init : ByteArray := prog_4_method_1_code
def yX2_init : MethodName := ⟨RX2, "<init>", "()V"⟩
abbrev cX2_putText : ByteArray := prog_4_method_2_code
def yX2_putText : MethodName := ⟨RX2, "putText", "(LHighlightPlaces$Match;)V"⟩
abbrev cX2_putPassages : ByteArray := prog_4_method_3_code
def yX2_putPassages : MethodName := ⟨RX2, "putPassages", "(LHighlightPlaces$Match;LHighlightPlaces$Choice;)V"⟩
abbrev cX2_putOut : ByteArray := prog_4_method_4_code
def yX2_putOut : MethodName := ⟨RX2, "putOut", "(LHighlightPlaces$Match;II)V"⟩
abbrev cX2_openAhead : ByteArray := prog_4_method_5_code
def yX2_openAhead : MethodName := ⟨RX2, "openAhead", "(LHighlightPlaces$Row;I)V"⟩
abbrev cX2_putBytes : ByteArray := prog_4_method_6_code
def yX2_putBytes : MethodName := ⟨RX2, "putBytes", "(LHighlightPlaces$Match;II)V"⟩
abbrev cX2_putMark : ByteArray := prog_4_method_7_code
def yX2_putMark : MethodName := ⟨RX2, "putMark", "(ZZ)V"⟩
abbrev cX2_closeBehind : ByteArray := prog_4_method_8_code
def yX2_closeBehind : MethodName := ⟨RX2, "closeBehind", "(LHighlightPlaces$Row;)V"⟩
abbrev cX2_putLetters : ByteArray := prog_4_method_9_code
def yX2_putLetters : MethodName := ⟨RX2, "putLetters", "(LHighlightPlaces$Row;I)V"⟩
def RX3 : String := "HighlightPlaces$Query"
def TX3 : u_T := fun k => match k with
  | 0 => ("HighlightPlaces$Query", "bytes", "LHighlightPlaces$Row;", true)
  | 1 => ("HighlightPlaces$Query", "termStart", "LHighlightPlaces$Row;", true)
  | 2 => ("HighlightPlaces$Query", "termLength", "LHighlightPlaces$Row;", true)
  | 3 => ("HighlightPlaces$Query", "termKind", "LHighlightPlaces$Row;", true)
  | 4 => ("HighlightPlaces$Query", "leafTerm", "LHighlightPlaces$Row;", true)
  | 5 => ("HighlightPlaces$Query", "leafTerms", "LHighlightPlaces$Row;", true)
  | 6 => ("HighlightPlaces$Query", "leafRoom", "LHighlightPlaces$Row;", true)
  | 7 => ("HighlightPlaces$Query", "nodeKind", "LHighlightPlaces$Row;", true)
  | 8 => ("HighlightPlaces$Query", "nodeParent", "LHighlightPlaces$Row;", true)
  | 9 => ("HighlightPlaces$Query", "nodeLeaf", "LHighlightPlaces$Row;", true)
  | 10 => ("HighlightPlaces$Query", "at", "I", false)
  | 11 => ("HighlightPlaces$Query", "current", "I", false)
  | 12 => ("HighlightPlaces$Query", "depth", "I", false)
  | _ => ("HighlightPlaces$Query", "wantsOne", "Z", false)
def tyX3 : Nat → FieldType := fun k => match k with
  | 0 => .object "HighlightPlaces$Row"
  | 1 => .object "HighlightPlaces$Row"
  | 2 => .object "HighlightPlaces$Row"
  | 3 => .object "HighlightPlaces$Row"
  | 4 => .object "HighlightPlaces$Row"
  | 5 => .object "HighlightPlaces$Row"
  | 6 => .object "HighlightPlaces$Row"
  | 7 => .object "HighlightPlaces$Row"
  | 8 => .object "HighlightPlaces$Row"
  | 9 => .object "HighlightPlaces$Row"
  | 10 => .int
  | 11 => .int
  | 12 => .int
  | _ => .boolean
abbrev wsX30 : List Cond := u_ws RX3 TX3 14
theorem nmX3 : ∀ a, a < 14 → ∀ b, b < 14 → a ≠ b → (TX3 a).2.1 ≠ (TX3 b).2.1 := by decide +kernel
theorem tyX3_ok : ∀ k, k < 14 → parseFieldDescriptor (TX3 k).2.2.1 = some (tyX3 k) := by decide +kernel
abbrev cX3_init : ByteArray := prog_5_method_1_code
def yX3_init : MethodName := ⟨RX3, "<init>", "()V"⟩
abbrev cX3_leafCount : ByteArray := prog_5_method_2_code
def yX3_leafCount : MethodName := ⟨RX3, "leafCount", "()I"⟩
abbrev cX3_read : ByteArray := prog_5_method_3_code
def yX3_read : MethodName := ⟨RX3, "read", "(LHighlightPlaces$Row;)I"⟩
abbrev cX3_begin : ByteArray := prog_5_method_4_code
def yX3_begin : MethodName := ⟨RX3, "begin", "(LHighlightPlaces$Row;)V"⟩
abbrev cX3_addNode : ByteArray := prog_5_method_5_code
def yX3_addNode : MethodName := ⟨RX3, "addNode", "(III)I"⟩
abbrev cX3_takeOne : ByteArray := prog_5_method_6_code
def yX3_takeOne : MethodName := ⟨RX3, "takeOne", "(I)Z"⟩
abbrev cX3_goDeeper : ByteArray := prog_5_method_7_code
def yX3_goDeeper : MethodName := ⟨RX3, "goDeeper", "(I)Z"⟩
abbrev cX3_endOne : ByteArray := prog_5_method_8_code
def yX3_endOne : MethodName := ⟨RX3, "endOne", "()V"⟩
abbrev cX3_takeJoint : ByteArray := prog_5_method_9_code
def yX3_takeJoint : MethodName := ⟨RX3, "takeJoint", "(I)Z"⟩
abbrev cX3_closeAny : ByteArray := prog_5_method_10_code
def yX3_closeAny : MethodName := ⟨RX3, "closeAny", "(I)Z"⟩
abbrev cX3_takeLeaf : ByteArray := prog_5_method_11_code
def yX3_takeLeaf : MethodName := ⟨RX3, "takeLeaf", "(I)Z"⟩
abbrev cX3_takePhrase : ByteArray := prog_5_method_12_code
def yX3_takePhrase : MethodName := ⟨RX3, "takePhrase", "()Z"⟩
abbrev cX3_skipBlanks : ByteArray := prog_5_method_13_code
def yX3_skipBlanks : MethodName := ⟨RX3, "skipBlanks", "()V"⟩
abbrev cX3_termIsOver : ByteArray := prog_5_method_14_code
def yX3_termIsOver : MethodName := ⟨RX3, "termIsOver", "()Z"⟩
abbrev cX3_takeTerm : ByteArray := prog_5_method_15_code
def yX3_takeTerm : MethodName := ⟨RX3, "takeTerm", "()Z"⟩
abbrev cX3_takeKind : ByteArray := prog_5_method_16_code
def yX3_takeKind : MethodName := ⟨RX3, "takeKind", "(I)I"⟩
abbrev cX3_takeRoom : ByteArray := prog_5_method_17_code
def yX3_takeRoom : MethodName := ⟨RX3, "takeRoom", "()I"⟩
def RX4 : String := "HighlightPlaces$Row"
def TX4 : u_T := fun k => match k with
  | 0 => ("HighlightPlaces$Row", "most", "I", true)
  | 1 => ("HighlightPlaces$Row", "cells", "[I", false)
  | _ => ("HighlightPlaces$Row", "used", "I", false)
def tyX4 : Nat → FieldType := fun k => match k with
  | 0 => .int
  | 1 => .array .int
  | _ => .int
abbrev wsX40 : List Cond := u_ws RX4 TX4 3
theorem nmX4 : ∀ a, a < 3 → ∀ b, b < 3 → a ≠ b → (TX4 a).2.1 ≠ (TX4 b).2.1 := by decide +kernel
theorem tyX4_ok : ∀ k, k < 3 → parseFieldDescriptor (TX4 k).2.2.1 = some (tyX4 k) := by decide +kernel
abbrev cX4_init : ByteArray := prog_6_method_1_code
def yX4_init : MethodName := ⟨RX4, "<init>", "(I)V"⟩
abbrev cX4_size : ByteArray := prog_6_method_2_code
def yX4_size : MethodName := ⟨RX4, "size", "()I"⟩
abbrev cX4_get : ByteArray := prog_6_method_3_code
def yX4_get : MethodName := ⟨RX4, "get", "(I)I"⟩
abbrev cX4_latest : ByteArray := prog_6_method_4_code
def yX4_latest : MethodName := ⟨RX4, "latest", "()I"⟩
abbrev cX4_set : ByteArray := prog_6_method_5_code
def yX4_set : MethodName := ⟨RX4, "set", "(II)V"⟩
abbrev cX4_setBit : ByteArray := prog_6_method_6_code
def yX4_setBit : MethodName := ⟨RX4, "setBit", "(II)V"⟩
abbrev cX4_hasBit : ByteArray := prog_6_method_7_code
def yX4_hasBit : MethodName := ⟨RX4, "hasBit", "(II)Z"⟩
abbrev cX4_add : ByteArray := prog_6_method_8_code
def yX4_add : MethodName := ⟨RX4, "add", "(I)V"⟩
abbrev cX4_keep : ByteArray := prog_6_method_9_code
def yX4_keep : MethodName := ⟨RX4, "keep", "(I)V"⟩
abbrev cX4_clear : ByteArray := prog_6_method_10_code
def yX4_clear : MethodName := ⟨RX4, "clear", "()V"⟩
abbrev cX4_fill : ByteArray := prog_6_method_11_code
def yX4_fill : MethodName := ⟨RX4, "fill", "(II)V"⟩
abbrev cX4_copy : ByteArray := prog_6_method_12_code
def yX4_copy : MethodName := ⟨RX4, "copy", "(LHighlightPlaces$Row;)V"⟩
abbrev cX4_makeRoom : ByteArray := prog_6_method_13_code
def yX4_makeRoom : MethodName := ⟨RX4, "makeRoom", "(I)V"⟩
def RX5 : String := "HighlightPlaces$Tags"
def TX5 : u_T := fun k => match k with
  | _ => ("HighlightPlaces$Tags", "starts", "LHighlightPlaces$Row;", true)
def tyX5 : Nat → FieldType := fun k => match k with
  | _ => .object "HighlightPlaces$Row"
abbrev wsX50 : List Cond := u_ws RX5 TX5 1
theorem nmX5 : ∀ a, a < 1 → ∀ b, b < 1 → a ≠ b → (TX5 a).2.1 ≠ (TX5 b).2.1 := by decide +kernel
theorem tyX5_ok : ∀ k, k < 1 → parseFieldDescriptor (TX5 k).2.2.1 = some (tyX5 k) := by decide +kernel
abbrev cX5_init : ByteArray := prog_7_method_1_code
def yX5_init : MethodName := ⟨RX5, "<init>", "()V"⟩
abbrev cX5_lengthAt : ByteArray := prog_7_method_2_code
def yX5_lengthAt : MethodName := ⟨RX5, "lengthAt", "(LHighlightPlaces$Row;I)I"⟩
abbrev cX5_isBreak : ByteArray := prog_7_method_3_code
def yX5_isBreak : MethodName := ⟨RX5, "isBreak", "(LHighlightPlaces$Row;I)Z"⟩
abbrev cX5_take : ByteArray := prog_7_method_4_code
def yX5_take : MethodName := ⟨RX5, "take", "(LHighlightPlaces$Row;I)Z"⟩
abbrev cX5_lettersAt : ByteArray := prog_7_method_5_code
def yX5_lettersAt : MethodName := ⟨RX5, "lettersAt", "(LHighlightPlaces$Row;I)I"⟩
abbrev cX5_haveSameLetters : ByteArray := prog_7_method_6_code
def yX5_haveSameLetters : MethodName := ⟨RX5, "haveSameLetters", "(LHighlightPlaces$Row;II)Z"⟩
def RX6 : String := "HighlightPlaces$Text"
def TX6 : u_T := fun k => match k with
  | 0 => ("HighlightPlaces$Text", "bytes", "LHighlightPlaces$Row;", true)
  | 1 => ("HighlightPlaces$Text", "wordStart", "LHighlightPlaces$Row;", true)
  | 2 => ("HighlightPlaces$Text", "wordEnd", "LHighlightPlaces$Row;", true)
  | 3 => ("HighlightPlaces$Text", "wordPosition", "LHighlightPlaces$Row;", true)
  | 4 => ("HighlightPlaces$Text", "wordSentence", "LHighlightPlaces$Row;", true)
  | 5 => ("HighlightPlaces$Text", "letters", "LHighlightPlaces$Row;", true)
  | 6 => ("HighlightPlaces$Text", "letterStart", "LHighlightPlaces$Row;", true)
  | 7 => ("HighlightPlaces$Text", "letterCount", "LHighlightPlaces$Row;", true)
  | 8 => ("HighlightPlaces$Text", "sentenceWord", "LHighlightPlaces$Row;", true)
  | 9 => ("HighlightPlaces$Text", "sentenceEnd", "LHighlightPlaces$Row;", true)
  | 10 => ("HighlightPlaces$Text", "open", "LHighlightPlaces$Tags;", true)
  | 11 => ("HighlightPlaces$Text", "inWord", "Z", false)
  | 12 => ("HighlightPlaces$Text", "broken", "Z", false)
  | 13 => ("HighlightPlaces$Text", "stopped", "Z", false)
  | 14 => ("HighlightPlaces$Text", "mayStop", "Z", false)
  | _ => ("HighlightPlaces$Text", "fullEnd", "I", false)
def tyX6 : Nat → FieldType := fun k => match k with
  | 0 => .object "HighlightPlaces$Row"
  | 1 => .object "HighlightPlaces$Row"
  | 2 => .object "HighlightPlaces$Row"
  | 3 => .object "HighlightPlaces$Row"
  | 4 => .object "HighlightPlaces$Row"
  | 5 => .object "HighlightPlaces$Row"
  | 6 => .object "HighlightPlaces$Row"
  | 7 => .object "HighlightPlaces$Row"
  | 8 => .object "HighlightPlaces$Row"
  | 9 => .object "HighlightPlaces$Row"
  | 10 => .object "HighlightPlaces$Tags"
  | 11 => .boolean
  | 12 => .boolean
  | 13 => .boolean
  | 14 => .boolean
  | _ => .int
abbrev wsX60 : List Cond := u_ws RX6 TX6 16
theorem nmX6 : ∀ a, a < 16 → ∀ b, b < 16 → a ≠ b → (TX6 a).2.1 ≠ (TX6 b).2.1 := by decide +kernel
theorem tyX6_ok : ∀ k, k < 16 → parseFieldDescriptor (TX6 k).2.2.1 = some (tyX6 k) := by decide +kernel
abbrev cX6_init : ByteArray := prog_8_method_1_code
def yX6_init : MethodName := ⟨RX6, "<init>", "()V"⟩
abbrev cX6_wordCount : ByteArray := prog_8_method_2_code
def yX6_wordCount : MethodName := ⟨RX6, "wordCount", "()I"⟩
abbrev cX6_sentenceCount : ByteArray := prog_8_method_3_code
def yX6_sentenceCount : MethodName := ⟨RX6, "sentenceCount", "()I"⟩
abbrev cX6_wordsOf : ByteArray := prog_8_method_4_code
def yX6_wordsOf : MethodName := ⟨RX6, "wordsOf", "(I)I"⟩
abbrev cX6_sentenceStart : ByteArray := prog_8_method_5_code
def yX6_sentenceStart : MethodName := ⟨RX6, "sentenceStart", "(I)I"⟩
abbrev cX6_read : ByteArray := prog_8_method_6_code
def yX6_read : MethodName := ⟨RX6, "read", "(LHighlightPlaces$Row;)I"⟩
abbrev cX6_begin : ByteArray := prog_8_method_7_code
def yX6_begin : MethodName := ⟨RX6, "begin", "(LHighlightPlaces$Row;)V"⟩
abbrev cX6_takeAt : ByteArray := prog_8_method_8_code
def yX6_takeAt : MethodName := ⟨RX6, "takeAt", "(I)I"⟩
abbrev cX6_takeTag : ByteArray := prog_8_method_9_code
def yX6_takeTag : MethodName := ⟨RX6, "takeTag", "(I)I"⟩
abbrev cX6_nameLength : ByteArray := prog_8_method_10_code
def yX6_nameLength : MethodName := ⟨RX6, "nameLength", "(I)I"⟩
abbrev cX6_takeOtherSign : ByteArray := prog_8_method_11_code
def yX6_takeOtherSign : MethodName := ⟨RX6, "takeOtherSign", "(II)V"⟩
abbrev cX6_takeWordSign : ByteArray := prog_8_method_12_code
def yX6_takeWordSign : MethodName := ⟨RX6, "takeWordSign", "(II)Z"⟩
abbrev cX6_beginWord : ByteArray := prog_8_method_13_code
def yX6_beginWord : MethodName := ⟨RX6, "beginWord", "(I)V"⟩
def RX7 : String := "HighlightPlaces"
def TX7 : u_T := fun k => match k with
  | 0 => ("HighlightPlaces", "tape", "LHighlightPlaces$Row;", true)
  | 1 => ("HighlightPlaces", "match", "LHighlightPlaces$Match;", true)
  | 2 => ("HighlightPlaces", "choice", "LHighlightPlaces$Choice;", true)
  | 3 => ("HighlightPlaces", "printer", "LHighlightPlaces$Printer;", true)
  | 4 => ("HighlightPlaces", "spareText", "LHighlightPlaces$Text;", false)
  | 5 => ("HighlightPlaces", "spareQuery", "LHighlightPlaces$Query;", false)
  | _ => ("HighlightPlaces", "wordLimit", "I", false)
def tyX7 : Nat → FieldType := fun k => match k with
  | 0 => .object "HighlightPlaces$Row"
  | 1 => .object "HighlightPlaces$Match"
  | 2 => .object "HighlightPlaces$Choice"
  | 3 => .object "HighlightPlaces$Printer"
  | 4 => .object "HighlightPlaces$Text"
  | 5 => .object "HighlightPlaces$Query"
  | _ => .int
abbrev wsX70 : List Cond := u_ws RX7 TX7 7
theorem nmX7 : ∀ a, a < 7 → ∀ b, b < 7 → a ≠ b → (TX7 a).2.1 ≠ (TX7 b).2.1 := by decide +kernel
theorem tyX7_ok : ∀ k, k < 7 → parseFieldDescriptor (TX7 k).2.2.1 = some (tyX7 k) := by decide +kernel
abbrev cX7_init : ByteArray := prog_1_method_1_code
def yX7_init : MethodName := ⟨RX7, "<init>", "()V"⟩
abbrev cX7_feed : ByteArray := prog_1_method_2_code
def yX7_feed : MethodName := ⟨RX7, "feed", "(IIIII)I"⟩
abbrev cX7_cut : ByteArray := prog_1_method_3_code
def yX7_cut : MethodName := ⟨RX7, "cut", "(I)I"⟩
abbrev cX7_text : ByteArray := prog_1_method_4_code
def yX7_text : MethodName := ⟨RX7, "text", "()I"⟩
abbrev cX7_query : ByteArray := prog_1_method_5_code
def yX7_query : MethodName := ⟨RX7, "query", "()I"⟩
abbrev cX7_limit : ByteArray := prog_1_method_6_code
def yX7_limit : MethodName := ⟨RX7, "limit", "(I)I"⟩
abbrev cX7_matches : ByteArray := prog_1_method_7_code
def yX7_matches : MethodName := ⟨RX7, "matches", "()I"⟩
abbrev cX7_word : ByteArray := prog_1_method_8_code
def yX7_word : MethodName := ⟨RX7, "word", "(II)I"⟩
abbrev cX7_letter : ByteArray := prog_1_method_9_code
def yX7_letter : MethodName := ⟨RX7, "letter", "(II)I"⟩
abbrev cX7_sentence : ByteArray := prog_1_method_10_code
def yX7_sentence : MethodName := ⟨RX7, "sentence", "(II)I"⟩
abbrev cX7_leaf : ByteArray := prog_1_method_11_code
def yX7_leaf : MethodName := ⟨RX7, "leaf", "(II)I"⟩
abbrev cX7_place : ByteArray := prog_1_method_12_code
def yX7_place : MethodName := ⟨RX7, "place", "(II)I"⟩
abbrev cX7_passages : ByteArray := prog_1_method_13_code
def yX7_passages : MethodName := ⟨RX7, "passages", "(I)I"⟩
abbrev cX7_passage : ByteArray := prog_1_method_14_code
def yX7_passage : MethodName := ⟨RX7, "passage", "(II)I"⟩
abbrev cX7_print : ByteArray := prog_1_method_15_code
def yX7_print : MethodName := ⟨RX7, "print", "(Z)I"⟩
abbrev cX7_printed : ByteArray := prog_1_method_16_code
def yX7_printed : MethodName := ⟨RX7, "printed", "(I)I"⟩
abbrev cX7_count : ByteArray := prog_1_method_17_code
def yX7_count : MethodName := ⟨RX7, "count", "(I)I"⟩
abbrev cX7_feedNumber : ByteArray := prog_1_method_18_code
def yX7_feedNumber : MethodName := ⟨RX7, "feedNumber", "(I)V"⟩
abbrev cX7_small : ByteArray := prog_1_method_19_code
def yX7_small : MethodName := ⟨RX7, "small", "(I)I"⟩
abbrev cX7_isSmallLetter : ByteArray := prog_1_method_20_code
def yX7_isSmallLetter : MethodName := ⟨RX7, "isSmallLetter", "(I)Z"⟩
abbrev cX7_isFigure : ByteArray := prog_1_method_21_code
def yX7_isFigure : MethodName := ⟨RX7, "isFigure", "(I)Z"⟩
abbrev cX7_isWordSign : ByteArray := prog_1_method_22_code
def yX7_isWordSign : MethodName := ⟨RX7, "isWordSign", "(I)Z"⟩
abbrev cX7_quotient : ByteArray := prog_1_method_23_code
def yX7_quotient : MethodName := ⟨RX7, "quotient", "(II)I"⟩
def RX8 : String := "HighlightPlacesModel"
def TX8 : u_T := fun k => match k with
  | 0 => ("HighlightPlacesModel", "tape", "[I", true)
  | 1 => ("HighlightPlacesModel", "size", "I", false)
  | 2 => ("HighlightPlacesModel", "bytes", "[I", true)
  | 3 => ("HighlightPlacesModel", "length", "I", false)
  | 4 => ("HighlightPlacesModel", "signs", "I", false)
  | 5 => ("HighlightPlacesModel", "sChar", "[I", true)
  | 6 => ("HighlightPlacesModel", "sAt", "[I", true)
  | 7 => ("HighlightPlacesModel", "sEnd", "[I", true)
  | 8 => ("HighlightPlacesModel", "sTag", "[Z", true)
  | 9 => ("HighlightPlacesModel", "sBreak", "[Z", true)
  | 10 => ("HighlightPlacesModel", "tags", "I", false)
  | 11 => ("HighlightPlacesModel", "tAt", "[I", true)
  | 12 => ("HighlightPlacesModel", "tEnd", "[I", true)
  | 13 => ("HighlightPlacesModel", "tCloses", "[Z", true)
  | 14 => ("HighlightPlacesModel", "words", "I", false)
  | 15 => ("HighlightPlacesModel", "wFirst", "[I", true)
  | 16 => ("HighlightPlacesModel", "wLast", "[I", true)
  | 17 => ("HighlightPlacesModel", "wPlace", "[I", true)
  | 18 => ("HighlightPlacesModel", "wSentence", "[I", true)
  | 19 => ("HighlightPlacesModel", "sentences", "I", false)
  | 20 => ("HighlightPlacesModel", "zFirst", "[I", true)
  | 21 => ("HighlightPlacesModel", "leaves", "I", false)
  | 22 => ("HighlightPlacesModel", "lFirst", "[I", true)
  | 23 => ("HighlightPlacesModel", "lTerms", "[I", true)
  | 24 => ("HighlightPlacesModel", "lRoom", "[I", true)
  | 25 => ("HighlightPlacesModel", "terms", "I", false)
  | 26 => ("HighlightPlacesModel", "eAt", "[I", true)
  | 27 => ("HighlightPlacesModel", "eSize", "[I", true)
  | 28 => ("HighlightPlacesModel", "eMode", "[I", true)
  | 29 => ("HighlightPlacesModel", "query", "[I", true)
  | 30 => ("HighlightPlacesModel", "nodes", "I", false)
  | 31 => ("HighlightPlacesModel", "nKind", "[I", true)
  | 32 => ("HighlightPlacesModel", "nA", "[I", true)
  | 33 => ("HighlightPlacesModel", "nB", "[I", true)
  | 34 => ("HighlightPlacesModel", "nTrue", "[Z", true)
  | 35 => ("HighlightPlacesModel", "nLit", "[Z", true)
  | 36 => ("HighlightPlacesModel", "most", "I", false)
  | 37 => ("HighlightPlacesModel", "lTrue", "[Z", true)
  | 38 => ("HighlightPlacesModel", "lLit", "[Z", true)
  | 39 => ("HighlightPlacesModel", "lCount", "[I", true)
  | 40 => ("HighlightPlacesModel", "counts", "[Z", true)
  | 41 => ("HighlightPlacesModel", "marked", "[Z", true)
  | 42 => ("HighlightPlacesModel", "joined", "[Z", true)
  | 43 => ("HighlightPlacesModel", "passages", "I", false)
  | 44 => ("HighlightPlacesModel", "pFirst", "[I", true)
  | 45 => ("HighlightPlacesModel", "pLast", "[I", true)
  | 46 => ("HighlightPlacesModel", "out", "[I", true)
  | 47 => ("HighlightPlacesModel", "put", "I", false)
  | 48 => ("HighlightPlacesModel", "tagEnd", "I", false)
  | 49 => ("HighlightPlacesModel", "openAt", "[I", true)
  | 50 => ("HighlightPlacesModel", "openSize", "[I", true)
  | 51 => ("HighlightPlacesModel", "newLeaves", "I", false)
  | 52 => ("HighlightPlacesModel", "newFirst", "[I", true)
  | 53 => ("HighlightPlacesModel", "newTerms", "[I", true)
  | 54 => ("HighlightPlacesModel", "newRoom", "[I", true)
  | 55 => ("HighlightPlacesModel", "newE", "I", false)
  | 56 => ("HighlightPlacesModel", "newAt", "[I", true)
  | 57 => ("HighlightPlacesModel", "newSize", "[I", true)
  | 58 => ("HighlightPlacesModel", "newMode", "[I", true)
  | 59 => ("HighlightPlacesModel", "newNodes", "I", false)
  | 60 => ("HighlightPlacesModel", "newKind", "[I", true)
  | 61 => ("HighlightPlacesModel", "newA", "[I", true)
  | 62 => ("HighlightPlacesModel", "newB", "[I", true)
  | 63 => ("HighlightPlacesModel", "ops", "[I", true)
  | 64 => ("HighlightPlacesModel", "opMany", "I", false)
  | 65 => ("HighlightPlacesModel", "done", "[I", true)
  | 66 => ("HighlightPlacesModel", "doneMany", "I", false)
  | 67 => ("HighlightPlacesModel", "at", "I", false)
  | 68 => ("HighlightPlacesModel", "wrong", "I", false)
  | 69 => ("HighlightPlacesModel", "wants", "Z", false)
  | 70 => ("HighlightPlacesModel", "early", "[I", true)
  | 71 => ("HighlightPlacesModel", "late", "[I", true)
  | 72 => ("HighlightPlacesModel", "chosen", "[Z", true)
  | _ => ("HighlightPlacesModel", "tOpen", "[I", true)
def tyX8 : Nat → FieldType := fun k => match k with
  | 0 => .array .int
  | 1 => .int
  | 2 => .array .int
  | 3 => .int
  | 4 => .int
  | 5 => .array .int
  | 6 => .array .int
  | 7 => .array .int
  | 8 => .array .boolean
  | 9 => .array .boolean
  | 10 => .int
  | 11 => .array .int
  | 12 => .array .int
  | 13 => .array .boolean
  | 14 => .int
  | 15 => .array .int
  | 16 => .array .int
  | 17 => .array .int
  | 18 => .array .int
  | 19 => .int
  | 20 => .array .int
  | 21 => .int
  | 22 => .array .int
  | 23 => .array .int
  | 24 => .array .int
  | 25 => .int
  | 26 => .array .int
  | 27 => .array .int
  | 28 => .array .int
  | 29 => .array .int
  | 30 => .int
  | 31 => .array .int
  | 32 => .array .int
  | 33 => .array .int
  | 34 => .array .boolean
  | 35 => .array .boolean
  | 36 => .int
  | 37 => .array .boolean
  | 38 => .array .boolean
  | 39 => .array .int
  | 40 => .array .boolean
  | 41 => .array .boolean
  | 42 => .array .boolean
  | 43 => .int
  | 44 => .array .int
  | 45 => .array .int
  | 46 => .array .int
  | 47 => .int
  | 48 => .int
  | 49 => .array .int
  | 50 => .array .int
  | 51 => .int
  | 52 => .array .int
  | 53 => .array .int
  | 54 => .array .int
  | 55 => .int
  | 56 => .array .int
  | 57 => .array .int
  | 58 => .array .int
  | 59 => .int
  | 60 => .array .int
  | 61 => .array .int
  | 62 => .array .int
  | 63 => .array .int
  | 64 => .int
  | 65 => .array .int
  | 66 => .int
  | 67 => .int
  | 68 => .int
  | 69 => .boolean
  | 70 => .array .int
  | 71 => .array .int
  | 72 => .array .boolean
  | _ => .array .int
abbrev wsX80 : List Cond := u_ws RX8 TX8 74
theorem nmX8 : ∀ a, a < 74 → ∀ b, b < 74 → a ≠ b → (TX8 a).2.1 ≠ (TX8 b).2.1 := by decide +kernel
theorem tyX8_ok : ∀ k, k < 74 → parseFieldDescriptor (TX8 k).2.2.1 = some (tyX8 k) := by decide +kernel
abbrev cX8_init : ByteArray := prog_10_method_1_code
def yX8_init : MethodName := ⟨RX8, "<init>", "()V"⟩
abbrev cX8_isLetter : ByteArray := prog_10_method_2_code
def yX8_isLetter : MethodName := ⟨RX8, "isLetter", "(I)Z"⟩
abbrev cX8_low : ByteArray := prog_10_method_3_code
def yX8_low : MethodName := ⟨RX8, "low", "(I)I"⟩
abbrev cX8_isWord : ByteArray := prog_10_method_4_code
def yX8_isWord : MethodName := ⟨RX8, "isWord", "(I)Z"⟩
abbrev cX8_feed : ByteArray := prog_10_method_5_code
def yX8_feed : MethodName := ⟨RX8, "feed", "(IIIII)I"⟩
abbrev cX8_cut : ByteArray := prog_10_method_6_code
def yX8_cut : MethodName := ⟨RX8, "cut", "(I)I"⟩
abbrev cX8_isTag : ByteArray := prog_10_method_7_code
def yX8_isTag : MethodName := ⟨RX8, "isTag", "(I)Z"⟩
abbrev cX8_same : ByteArray := prog_10_method_8_code
def yX8_same : MethodName := ⟨RX8, "same", "([IIII)Z"⟩
abbrev cX8_named : ByteArray := prog_10_method_9_code
def yX8_named : MethodName := ⟨RX8, "named", "(I)I"⟩
abbrev cX8_fault : ByteArray := prog_10_method_10_code
def yX8_fault : MethodName := ⟨RX8, "fault", "()I"⟩
abbrev cX8_take : ByteArray := prog_10_method_11_code
def yX8_take : MethodName := ⟨RX8, "take", "()V"⟩
abbrev cX8_isPart : ByteArray := prog_10_method_12_code
def yX8_isPart : MethodName := ⟨RX8, "isPart", "(I)Z"⟩
abbrev cX8_findWords : ByteArray := prog_10_method_13_code
def yX8_findWords : MethodName := ⟨RX8, "findWords", "()V"⟩
abbrev cX8_text : ByteArray := prog_10_method_14_code
def yX8_text : MethodName := ⟨RX8, "text", "()I"⟩
abbrev cX8_peek : ByteArray := prog_10_method_15_code
def yX8_peek : MethodName := ⟨RX8, "peek", "()I"⟩
abbrev cX8_blanks : ByteArray := prog_10_method_16_code
def yX8_blanks : MethodName := ⟨RX8, "blanks", "()V"⟩
abbrev cX8_node : ByteArray := prog_10_method_17_code
def yX8_node : MethodName := ⟨RX8, "node", "(III)V"⟩
abbrev cX8_complete : ByteArray := prog_10_method_18_code
def yX8_complete : MethodName := ⟨RX8, "complete", "()V"⟩
abbrev cX8_reduce : ByteArray := prog_10_method_19_code
def yX8_reduce : MethodName := ⟨RX8, "reduce", "(I)V"⟩
abbrev cX8_nested : ByteArray := prog_10_method_20_code
def yX8_nested : MethodName := ⟨RX8, "nested", "()I"⟩
abbrev cX8_readTerm : ByteArray := prog_10_method_21_code
def yX8_readTerm : MethodName := ⟨RX8, "readTerm", "()V"⟩
abbrev cX8_readPhrase : ByteArray := prog_10_method_22_code
def yX8_readPhrase : MethodName := ⟨RX8, "readPhrase", "()V"⟩
abbrev cX8_readOne : ByteArray := prog_10_method_23_code
def yX8_readOne : MethodName := ⟨RX8, "readOne", "()V"⟩
abbrev cX8_readOp : ByteArray := prog_10_method_24_code
def yX8_readOp : MethodName := ⟨RX8, "readOp", "()V"⟩
abbrev cX8_readQuery : ByteArray := prog_10_method_25_code
def yX8_readQuery : MethodName := ⟨RX8, "readQuery", "()V"⟩
abbrev cX8_query : ByteArray := prog_10_method_26_code
def yX8_query : MethodName := ⟨RX8, "query", "()I"⟩
abbrev cX8_limit : ByteArray := prog_10_method_27_code
def yX8_limit : MethodName := ⟨RX8, "limit", "(I)I"⟩
abbrev cX8_looked : ByteArray := prog_10_method_28_code
def yX8_looked : MethodName := ⟨RX8, "looked", "()I"⟩
abbrev cX8_letterOf : ByteArray := prog_10_method_29_code
def yX8_letterOf : MethodName := ⟨RX8, "letterOf", "(II)I"⟩
abbrev cX8_sizeOf : ByteArray := prog_10_method_30_code
def yX8_sizeOf : MethodName := ⟨RX8, "sizeOf", "(I)I"⟩
abbrev cX8_fits : ByteArray := prog_10_method_31_code
def yX8_fits : MethodName := ⟨RX8, "fits", "(II)Z"⟩
abbrev cX8_ways : ByteArray := prog_10_method_32_code
def yX8_ways : MethodName := ⟨RX8, "ways", "(II)Z"⟩
abbrev cX8_work : ByteArray := prog_10_method_33_code
def yX8_work : MethodName := ⟨RX8, "work", "()V"⟩
abbrev cX8_mark : ByteArray := prog_10_method_34_code
def yX8_mark : MethodName := ⟨RX8, "mark", "()V"⟩
abbrev cX8_matches : ByteArray := prog_10_method_35_code
def yX8_matches : MethodName := ⟨RX8, "matches", "()I"⟩
abbrev cX8_isWordNumber : ByteArray := prog_10_method_36_code
def yX8_isWordNumber : MethodName := ⟨RX8, "isWordNumber", "(I)Z"⟩
abbrev cX8_word : ByteArray := prog_10_method_37_code
def yX8_word : MethodName := ⟨RX8, "word", "(II)I"⟩
abbrev cX8_letter : ByteArray := prog_10_method_38_code
def yX8_letter : MethodName := ⟨RX8, "letter", "(II)I"⟩
abbrev cX8_score : ByteArray := prog_10_method_39_code
def yX8_score : MethodName := ⟨RX8, "score", "(I)I"⟩
abbrev cX8_sentenceEnd : ByteArray := prog_10_method_40_code
def yX8_sentenceEnd : MethodName := ⟨RX8, "sentenceEnd", "(I)I"⟩
abbrev cX8_sentence : ByteArray := prog_10_method_41_code
def yX8_sentence : MethodName := ⟨RX8, "sentence", "(II)I"⟩
abbrev cX8_leaf : ByteArray := prog_10_method_42_code
def yX8_leaf : MethodName := ⟨RX8, "leaf", "(II)I"⟩
abbrev cX8_begins : ByteArray := prog_10_method_43_code
def yX8_begins : MethodName := ⟨RX8, "begins", "(I)Z"⟩
abbrev cX8_lastOf : ByteArray := prog_10_method_44_code
def yX8_lastOf : MethodName := ⟨RX8, "lastOf", "(I)I"⟩
abbrev cX8_places : ByteArray := prog_10_method_45_code
def yX8_places : MethodName := ⟨RX8, "places", "()I"⟩
abbrev cX8_place : ByteArray := prog_10_method_46_code
def yX8_place : MethodName := ⟨RX8, "place", "(II)I"⟩
abbrev cX8_passages : ByteArray := prog_10_method_47_code
def yX8_passages : MethodName := ⟨RX8, "passages", "(I)I"⟩
abbrev cX8_passage : ByteArray := prog_10_method_48_code
def yX8_passage : MethodName := ⟨RX8, "passage", "(II)I"⟩
abbrev cX8_say : ByteArray := prog_10_method_49_code
def yX8_say : MethodName := ⟨RX8, "say", "(I)V"⟩
abbrev cX8_openBefore : ByteArray := prog_10_method_50_code
def yX8_openBefore : MethodName := ⟨RX8, "openBefore", "(I)I"⟩
abbrev cX8_placeOf : ByteArray := prog_10_method_51_code
def yX8_placeOf : MethodName := ⟨RX8, "placeOf", "(I)I"⟩
abbrev cX8_putOut : ByteArray := prog_10_method_52_code
def yX8_putOut : MethodName := ⟨RX8, "putOut", "(II)V"⟩
abbrev cX8_print : ByteArray := prog_10_method_53_code
def yX8_print : MethodName := ⟨RX8, "print", "(Z)I"⟩
abbrev cX8_printed : ByteArray := prog_10_method_54_code
def yX8_printed : MethodName := ⟨RX8, "printed", "(I)I"⟩
abbrev cX8_count : ByteArray := prog_10_method_55_code
def yX8_count : MethodName := ⟨RX8, "count", "(I)I"⟩
def RL : String := "HighlightPlacesLaw"
abbrev cL_law : ByteArray := code
def yL_law : MethodName := ⟨RL, "law", "([I)Z"⟩
abbrev vwCl : List vw_C := [(RX0, TX0, 3), (RX1, TX1, 17), (RX2, TX2, 2), (RX3, TX3, 14), (RX4, TX4, 3), (RX5, TX5, 1), (RX6, TX6, 16), (RX7, TX7, 7), (RX8, TX8, 74)]
