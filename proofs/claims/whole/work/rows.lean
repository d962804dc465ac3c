section
-- ===== PART A: goes FIRST, ahead of the names: the tables' words, and 'selects' of the private methods out of them =====
/-- a private method of a class that the tables say can be made, by its rows of tables_1 -/
def lw_okq (q : MethodName × Nat) : Prop := (q.1.cls ≠ "java/lang/invoke/MethodHandle" ∧ q.1.cls ≠ "java/lang/invoke/VarHandle") ∧ Cond.instantiable q.1.cls q.2 ∈ tables_1 ∧ Cond.privateMethod q.1 ∈ tables_1 ∧ Cond.instanceMethod q.1 ∈ tables_1
theorem lw_p0 : lw_okq (⟨"TombLane$Men", "add", "(JII)I"⟩, 4) := ⟨⟨by decide +kernel, by decide +kernel⟩, List.mem_of_getElem? (i := 32) (by decide +kernel), List.mem_of_getElem? (i := 332) (by decide +kernel), List.mem_of_getElem? (i := 333) (by decide +kernel)⟩
theorem lw_p1 : lw_okq (⟨"TombLane$Men", "find", "(J)I"⟩, 4) := ⟨⟨by decide +kernel, by decide +kernel⟩, List.mem_of_getElem? (i := 32) (by decide +kernel), List.mem_of_getElem? (i := 360) (by decide +kernel), List.mem_of_getElem? (i := 361) (by decide +kernel)⟩
theorem lw_p2 : lw_okq (⟨"TombLane$Tape", "hasRoomFor", "(I)Z"⟩, 2) := ⟨⟨by decide +kernel, by decide +kernel⟩, List.mem_of_getElem? (i := 60) (by decide +kernel), List.mem_of_getElem? (i := 368) (by decide +kernel), List.mem_of_getElem? (i := 369) (by decide +kernel)⟩
theorem lw_p3 : lw_okq (⟨"TombLane$Tape", "append", "(I)V"⟩, 2) := ⟨⟨by decide +kernel, by decide +kernel⟩, List.mem_of_getElem? (i := 60) (by decide +kernel), List.mem_of_getElem? (i := 372) (by decide +kernel), List.mem_of_getElem? (i := 373) (by decide +kernel)⟩
theorem lw_p4 : lw_okq (⟨"TombLane$Tape", "cut", "(I)Z"⟩, 2) := ⟨⟨by decide +kernel, by decide +kernel⟩, List.mem_of_getElem? (i := 60) (by decide +kernel), List.mem_of_getElem? (i := 380) (by decide +kernel), List.mem_of_getElem? (i := 381) (by decide +kernel)⟩
theorem lw_p5 : lw_okq (⟨"TombLane$Flakes", "isFull", "()Z"⟩, 1) := ⟨⟨by decide +kernel, by decide +kernel⟩, List.mem_of_getElem? (i := 161) (by decide +kernel), List.mem_of_getElem? (i := 388) (by decide +kernel), List.mem_of_getElem? (i := 389) (by decide +kernel)⟩
theorem lw_p6 : lw_okq (⟨"TombLane$FlakeReader", "read", "(LTombLane$Flake;)Z"⟩, 8) := ⟨⟨by decide +kernel, by decide +kernel⟩, List.mem_of_getElem? (i := 75) (by decide +kernel), List.mem_of_getElem? (i := 422) (by decide +kernel), List.mem_of_getElem? (i := 423) (by decide +kernel)⟩
theorem lw_p7 : lw_okq (⟨"TombLane$Tokens", "restart", "()V"⟩, 5) := ⟨⟨by decide +kernel, by decide +kernel⟩, List.mem_of_getElem? (i := 109) (by decide +kernel), List.mem_of_getElem? (i := 426) (by decide +kernel), List.mem_of_getElem? (i := 427) (by decide +kernel)⟩
theorem lw_p8 : lw_okq (⟨"TombLane$Tokens", "advance", "()V"⟩, 5) := ⟨⟨by decide +kernel, by decide +kernel⟩, List.mem_of_getElem? (i := 109) (by decide +kernel), List.mem_of_getElem? (i := 430) (by decide +kernel), List.mem_of_getElem? (i := 431) (by decide +kernel)⟩
theorem lw_p9 : lw_okq (⟨"TombLane$Tokens", "skipBlanks", "()V"⟩, 5) := ⟨⟨by decide +kernel, by decide +kernel⟩, List.mem_of_getElem? (i := 109) (by decide +kernel), List.mem_of_getElem? (i := 434) (by decide +kernel), List.mem_of_getElem? (i := 435) (by decide +kernel)⟩
theorem lw_p10 : lw_okq (⟨"TombLane$Tape", "at", "(I)I"⟩, 2) := ⟨⟨by decide +kernel, by decide +kernel⟩, List.mem_of_getElem? (i := 60) (by decide +kernel), List.mem_of_getElem? (i := 438) (by decide +kernel), List.mem_of_getElem? (i := 439) (by decide +kernel)⟩
theorem lw_p11 : lw_okq (⟨"TombLane$Tokens", "readWord", "()V"⟩, 5) := ⟨⟨by decide +kernel, by decide +kernel⟩, List.mem_of_getElem? (i := 109) (by decide +kernel), List.mem_of_getElem? (i := 444) (by decide +kernel), List.mem_of_getElem? (i := 445) (by decide +kernel)⟩
theorem lw_p12 : lw_okq (⟨"TombLane$Tokens", "readNumber", "()V"⟩, 5) := ⟨⟨by decide +kernel, by decide +kernel⟩, List.mem_of_getElem? (i := 109) (by decide +kernel), List.mem_of_getElem? (i := 451) (by decide +kernel), List.mem_of_getElem? (i := 452) (by decide +kernel)⟩
theorem lw_p13 : lw_okq (⟨"TombLane$Tokens", "readSign", "(I)V"⟩, 5) := ⟨⟨by decide +kernel, by decide +kernel⟩, List.mem_of_getElem? (i := 109) (by decide +kernel), List.mem_of_getElem? (i := 456) (by decide +kernel), List.mem_of_getElem? (i := 457) (by decide +kernel)⟩
theorem lw_p14 : lw_okq (⟨"TombLane$FlakeReader", "faultOfToken", "(LTombLane$Flake;)I"⟩, 8) := ⟨⟨by decide +kernel, by decide +kernel⟩, List.mem_of_getElem? (i := 75) (by decide +kernel), List.mem_of_getElem? (i := 460) (by decide +kernel), List.mem_of_getElem? (i := 461) (by decide +kernel)⟩
theorem lw_p15 : lw_okq (⟨"TombLane$FlakeReader", "takeLine", "(LTombLane$Flake;)I"⟩, 8) := ⟨⟨by decide +kernel, by decide +kernel⟩, List.mem_of_getElem? (i := 75) (by decide +kernel), List.mem_of_getElem? (i := 464) (by decide +kernel), List.mem_of_getElem? (i := 465) (by decide +kernel)⟩
def lw_privs_1 : List (MethodName × Nat) := [(⟨"TombLane$Men", "add", "(JII)I"⟩, 4), (⟨"TombLane$Men", "find", "(J)I"⟩, 4), (⟨"TombLane$Tape", "hasRoomFor", "(I)Z"⟩, 2), (⟨"TombLane$Tape", "append", "(I)V"⟩, 2), (⟨"TombLane$Tape", "cut", "(I)Z"⟩, 2), (⟨"TombLane$Flakes", "isFull", "()Z"⟩, 1), (⟨"TombLane$FlakeReader", "read", "(LTombLane$Flake;)Z"⟩, 8), (⟨"TombLane$Tokens", "restart", "()V"⟩, 5), (⟨"TombLane$Tokens", "advance", "()V"⟩, 5), (⟨"TombLane$Tokens", "skipBlanks", "()V"⟩, 5), (⟨"TombLane$Tape", "at", "(I)I"⟩, 2), (⟨"TombLane$Tokens", "readWord", "()V"⟩, 5), (⟨"TombLane$Tokens", "readNumber", "()V"⟩, 5), (⟨"TombLane$Tokens", "readSign", "(I)V"⟩, 5), (⟨"TombLane$FlakeReader", "faultOfToken", "(LTombLane$Flake;)I"⟩, 8), (⟨"TombLane$FlakeReader", "takeLine", "(LTombLane$Flake;)I"⟩, 8)]
theorem lw_r1 : ∀ q ∈ lw_privs_1, lw_okq q := List.forall_mem_cons.mpr ⟨lw_p0, List.forall_mem_cons.mpr ⟨lw_p1, List.forall_mem_cons.mpr ⟨lw_p2, List.forall_mem_cons.mpr ⟨lw_p3, List.forall_mem_cons.mpr ⟨lw_p4, List.forall_mem_cons.mpr ⟨lw_p5, List.forall_mem_cons.mpr ⟨lw_p6, List.forall_mem_cons.mpr ⟨lw_p7, List.forall_mem_cons.mpr ⟨lw_p8, List.forall_mem_cons.mpr ⟨lw_p9, List.forall_mem_cons.mpr ⟨lw_p10, List.forall_mem_cons.mpr ⟨lw_p11, List.forall_mem_cons.mpr ⟨lw_p12, List.forall_mem_cons.mpr ⟨lw_p13, List.forall_mem_cons.mpr ⟨lw_p14, List.forall_mem_cons.mpr ⟨lw_p15, fun _ h => absurd h List.not_mem_nil⟩⟩⟩⟩⟩⟩⟩⟩⟩⟩⟩⟩⟩⟩⟩⟩
theorem lw_p16 : lw_okq (⟨"TombLane$Tokens", "isWord", "(J)Z"⟩, 5) := ⟨⟨by decide +kernel, by decide +kernel⟩, List.mem_of_getElem? (i := 109) (by decide +kernel), List.mem_of_getElem? (i := 469) (by decide +kernel), List.mem_of_getElem? (i := 470) (by decide +kernel)⟩
theorem lw_p17 : lw_okq (⟨"TombLane$FlakeReader", "expect", "(I)I"⟩, 8) := ⟨⟨by decide +kernel, by decide +kernel⟩, List.mem_of_getElem? (i := 75) (by decide +kernel), List.mem_of_getElem? (i := 474) (by decide +kernel), List.mem_of_getElem? (i := 475) (by decide +kernel)⟩
theorem lw_p18 : lw_okq (⟨"TombLane$FlakeReader", "takeDayNumber", "()I"⟩, 8) := ⟨⟨by decide +kernel, by decide +kernel⟩, List.mem_of_getElem? (i := 75) (by decide +kernel), List.mem_of_getElem? (i := 478) (by decide +kernel), List.mem_of_getElem? (i := 479) (by decide +kernel)⟩
theorem lw_p19 : lw_okq (⟨"TombLane$FlakeReader", "takeGang", "(LTombLane$Flake;)I"⟩, 8) := ⟨⟨by decide +kernel, by decide +kernel⟩, List.mem_of_getElem? (i := 75) (by decide +kernel), List.mem_of_getElem? (i := 483) (by decide +kernel), List.mem_of_getElem? (i := 484) (by decide +kernel)⟩
theorem lw_p20 : lw_okq (⟨"java/util/ArrayList", "add", "(Ljava/lang/Object;[Ljava/lang/Object;I)V"⟩, 3) := ⟨⟨by decide +kernel, by decide +kernel⟩, List.mem_of_getElem? (i := 167) (by decide +kernel), List.mem_of_getElem? (i := 492) (by decide +kernel), List.mem_of_getElem? (i := 493) (by decide +kernel)⟩
theorem lw_p21 : lw_okq (⟨"java/util/ArrayList", "grow", "()[Ljava/lang/Object;"⟩, 3) := ⟨⟨by decide +kernel, by decide +kernel⟩, List.mem_of_getElem? (i := 167) (by decide +kernel), List.mem_of_getElem? (i := 496) (by decide +kernel), List.mem_of_getElem? (i := 497) (by decide +kernel)⟩
theorem lw_p22 : lw_okq (⟨"java/util/ArrayList", "grow", "(I)[Ljava/lang/Object;"⟩, 3) := ⟨⟨by decide +kernel, by decide +kernel⟩, List.mem_of_getElem? (i := 167) (by decide +kernel), List.mem_of_getElem? (i := 500) (by decide +kernel), List.mem_of_getElem? (i := 501) (by decide +kernel)⟩
theorem lw_p23 : lw_okq (⟨"TombLane$FlakeReader", "takeSign", "(CI)I"⟩, 8) := ⟨⟨by decide +kernel, by decide +kernel⟩, List.mem_of_getElem? (i := 75) (by decide +kernel), List.mem_of_getElem? (i := 549) (by decide +kernel), List.mem_of_getElem? (i := 550) (by decide +kernel)⟩
theorem lw_p24 : lw_okq (⟨"TombLane$Tokens", "isSign", "(C)Z"⟩, 5) := ⟨⟨by decide +kernel, by decide +kernel⟩, List.mem_of_getElem? (i := 109) (by decide +kernel), List.mem_of_getElem? (i := 553) (by decide +kernel), List.mem_of_getElem? (i := 554) (by decide +kernel)⟩
theorem lw_p25 : lw_okq (⟨"TombLane$FlakeReader", "takeEntry", "()I"⟩, 8) := ⟨⟨by decide +kernel, by decide +kernel⟩, List.mem_of_getElem? (i := 75) (by decide +kernel), List.mem_of_getElem? (i := 557) (by decide +kernel), List.mem_of_getElem? (i := 558) (by decide +kernel)⟩
theorem lw_p26 : lw_okq (⟨"TombLane$FlakeReader", "takeName", "()I"⟩, 8) := ⟨⟨by decide +kernel, by decide +kernel⟩, List.mem_of_getElem? (i := 75) (by decide +kernel), List.mem_of_getElem? (i := 563) (by decide +kernel), List.mem_of_getElem? (i := 564) (by decide +kernel)⟩
theorem lw_p27 : lw_okq (⟨"TombLane$Men", "findInGang", "(JI)I"⟩, 4) := ⟨⟨by decide +kernel, by decide +kernel⟩, List.mem_of_getElem? (i := 32) (by decide +kernel), List.mem_of_getElem? (i := 567) (by decide +kernel), List.mem_of_getElem? (i := 568) (by decide +kernel)⟩
theorem lw_p28 : lw_okq (⟨"TombLane$Line", "names", "(I)Z"⟩, 5) := ⟨⟨by decide +kernel, by decide +kernel⟩, List.mem_of_getElem? (i := 81) (by decide +kernel), List.mem_of_getElem? (i := 571) (by decide +kernel), List.mem_of_getElem? (i := 572) (by decide +kernel)⟩
theorem lw_p29 : lw_okq (⟨"TombLane$FlakeReader", "takeToldOfName", "()I"⟩, 8) := ⟨⟨by decide +kernel, by decide +kernel⟩, List.mem_of_getElem? (i := 75) (by decide +kernel), List.mem_of_getElem? (i := 575) (by decide +kernel), List.mem_of_getElem? (i := 576) (by decide +kernel)⟩
theorem lw_p30 : lw_okq (⟨"TombLane$FlakeReader", "takeWicksNumber", "()I"⟩, 8) := ⟨⟨by decide +kernel, by decide +kernel⟩, List.mem_of_getElem? (i := 75) (by decide +kernel), List.mem_of_getElem? (i := 580) (by decide +kernel), List.mem_of_getElem? (i := 581) (by decide +kernel)⟩
theorem lw_p31 : lw_okq (⟨"TombLane$Flakes", "keep", "(LTombLane$Flake;)I"⟩, 1) := ⟨⟨by decide +kernel, by decide +kernel⟩, List.mem_of_getElem? (i := 161) (by decide +kernel), List.mem_of_getElem? (i := 584) (by decide +kernel), List.mem_of_getElem? (i := 585) (by decide +kernel)⟩
def lw_privs_2 : List (MethodName × Nat) := [(⟨"TombLane$Tokens", "isWord", "(J)Z"⟩, 5), (⟨"TombLane$FlakeReader", "expect", "(I)I"⟩, 8), (⟨"TombLane$FlakeReader", "takeDayNumber", "()I"⟩, 8), (⟨"TombLane$FlakeReader", "takeGang", "(LTombLane$Flake;)I"⟩, 8), (⟨"java/util/ArrayList", "add", "(Ljava/lang/Object;[Ljava/lang/Object;I)V"⟩, 3), (⟨"java/util/ArrayList", "grow", "()[Ljava/lang/Object;"⟩, 3), (⟨"java/util/ArrayList", "grow", "(I)[Ljava/lang/Object;"⟩, 3), (⟨"TombLane$FlakeReader", "takeSign", "(CI)I"⟩, 8), (⟨"TombLane$Tokens", "isSign", "(C)Z"⟩, 5), (⟨"TombLane$FlakeReader", "takeEntry", "()I"⟩, 8), (⟨"TombLane$FlakeReader", "takeName", "()I"⟩, 8), (⟨"TombLane$Men", "findInGang", "(JI)I"⟩, 4), (⟨"TombLane$Line", "names", "(I)Z"⟩, 5), (⟨"TombLane$FlakeReader", "takeToldOfName", "()I"⟩, 8), (⟨"TombLane$FlakeReader", "takeWicksNumber", "()I"⟩, 8), (⟨"TombLane$Flakes", "keep", "(LTombLane$Flake;)I"⟩, 1)]
theorem lw_r2 : ∀ q ∈ lw_privs_2, lw_okq q := List.forall_mem_cons.mpr ⟨lw_p16, List.forall_mem_cons.mpr ⟨lw_p17, List.forall_mem_cons.mpr ⟨lw_p18, List.forall_mem_cons.mpr ⟨lw_p19, List.forall_mem_cons.mpr ⟨lw_p20, List.forall_mem_cons.mpr ⟨lw_p21, List.forall_mem_cons.mpr ⟨lw_p22, List.forall_mem_cons.mpr ⟨lw_p23, List.forall_mem_cons.mpr ⟨lw_p24, List.forall_mem_cons.mpr ⟨lw_p25, List.forall_mem_cons.mpr ⟨lw_p26, List.forall_mem_cons.mpr ⟨lw_p27, List.forall_mem_cons.mpr ⟨lw_p28, List.forall_mem_cons.mpr ⟨lw_p29, List.forall_mem_cons.mpr ⟨lw_p30, List.forall_mem_cons.mpr ⟨lw_p31, fun _ h => absurd h List.not_mem_nil⟩⟩⟩⟩⟩⟩⟩⟩⟩⟩⟩⟩⟩⟩⟩⟩
theorem lw_p32 : lw_okq (⟨"TombLane$Flakes", "giveUpOn", "(II)Z"⟩, 1) := ⟨⟨by decide +kernel, by decide +kernel⟩, List.mem_of_getElem? (i := 161) (by decide +kernel), List.mem_of_getElem? (i := 597) (by decide +kernel), List.mem_of_getElem? (i := 598) (by decide +kernel)⟩
theorem lw_p33 : lw_okq (⟨"TombLane$Men", "has", "(I)Z"⟩, 4) := ⟨⟨by decide +kernel, by decide +kernel⟩, List.mem_of_getElem? (i := 32) (by decide +kernel), List.mem_of_getElem? (i := 626) (by decide +kernel), List.mem_of_getElem? (i := 627) (by decide +kernel)⟩
theorem lw_p34 : lw_okq (⟨"TombLane$DayBook", "stateOf", "(III)I"⟩, 6) := ⟨⟨by decide +kernel, by decide +kernel⟩, List.mem_of_getElem? (i := 198) (by decide +kernel), List.mem_of_getElem? (i := 631) (by decide +kernel), List.mem_of_getElem? (i := 632) (by decide +kernel)⟩
theorem lw_p35 : lw_okq (⟨"TombLane$DayBook", "reckon", "(III)I"⟩, 6) := ⟨⟨by decide +kernel, by decide +kernel⟩, List.mem_of_getElem? (i := 198) (by decide +kernel), List.mem_of_getElem? (i := 635) (by decide +kernel), List.mem_of_getElem? (i := 636) (by decide +kernel)⟩
theorem lw_p36 : lw_okq (⟨"TombLane$Flake", "counts", "(I)Z"⟩, 4) := ⟨⟨by decide +kernel, by decide +kernel⟩, List.mem_of_getElem? (i := 396) (by decide +kernel), List.mem_of_getElem? (i := 642) (by decide +kernel), List.mem_of_getElem? (i := 643) (by decide +kernel)⟩
theorem lw_p37 : lw_okq (⟨"TombLane$DayBook", "hearFlake", "(LTombLane$Flake;II)V"⟩, 6) := ⟨⟨by decide +kernel, by decide +kernel⟩, List.mem_of_getElem? (i := 198) (by decide +kernel), List.mem_of_getElem? (i := 646) (by decide +kernel), List.mem_of_getElem? (i := 647) (by decide +kernel)⟩
theorem lw_p38 : lw_okq (⟨"TombLane$Line", "isOf", "(II)Z"⟩, 5) := ⟨⟨by decide +kernel, by decide +kernel⟩, List.mem_of_getElem? (i := 81) (by decide +kernel), List.mem_of_getElem? (i := 651) (by decide +kernel), List.mem_of_getElem? (i := 652) (by decide +kernel)⟩
theorem lw_p39 : lw_okq (⟨"TombLane$DayBook", "hearLine", "(LTombLane$Line;)V"⟩, 6) := ⟨⟨by decide +kernel, by decide +kernel⟩, List.mem_of_getElem? (i := 198) (by decide +kernel), List.mem_of_getElem? (i := 655) (by decide +kernel), List.mem_of_getElem? (i := 656) (by decide +kernel)⟩
theorem lw_p40 : lw_okq (⟨"TombLane$Line", "tells", "(I)I"⟩, 5) := ⟨⟨by decide +kernel, by decide +kernel⟩, List.mem_of_getElem? (i := 81) (by decide +kernel), List.mem_of_getElem? (i := 659) (by decide +kernel), List.mem_of_getElem? (i := 660) (by decide +kernel)⟩
theorem lw_p41 : lw_okq (⟨"TombLane$DayBook", "narrow", "(I)I"⟩, 6) := ⟨⟨by decide +kernel, by decide +kernel⟩, List.mem_of_getElem? (i := 198) (by decide +kernel), List.mem_of_getElem? (i := 666) (by decide +kernel), List.mem_of_getElem? (i := 667) (by decide +kernel)⟩
theorem lw_p42 : lw_okq (⟨"TombLane$DayBook", "menThatAre", "(II)I"⟩, 6) := ⟨⟨by decide +kernel, by decide +kernel⟩, List.mem_of_getElem? (i := 198) (by decide +kernel), List.mem_of_getElem? (i := 670) (by decide +kernel), List.mem_of_getElem? (i := 671) (by decide +kernel)⟩
theorem lw_p43 : lw_okq (⟨"TombLane$DayBook", "closeOpen", "(II)V"⟩, 6) := ⟨⟨by decide +kernel, by decide +kernel⟩, List.mem_of_getElem? (i := 198) (by decide +kernel), List.mem_of_getElem? (i := 674) (by decide +kernel), List.mem_of_getElem? (i := 675) (by decide +kernel)⟩
theorem lw_p44 : lw_okq (⟨"TombLane$DayBook", "daysByState", "(III)[I"⟩, 6) := ⟨⟨by decide +kernel, by decide +kernel⟩, List.mem_of_getElem? (i := 198) (by decide +kernel), List.mem_of_getElem? (i := 687) (by decide +kernel), List.mem_of_getElem? (i := 688) (by decide +kernel)⟩
theorem lw_p45 : lw_okq (⟨"TombLane$Rations", "setSacks", "(II)Z"⟩, 6) := ⟨⟨by decide +kernel, by decide +kernel⟩, List.mem_of_getElem? (i := 223) (by decide +kernel), List.mem_of_getElem? (i := 700) (by decide +kernel), List.mem_of_getElem? (i := 701) (by decide +kernel)⟩
theorem lw_p46 : lw_okq (⟨"TombLane$Rations", "take", "(III)I"⟩, 6) := ⟨⟨by decide +kernel, by decide +kernel⟩, List.mem_of_getElem? (i := 223) (by decide +kernel), List.mem_of_getElem? (i := 708) (by decide +kernel), List.mem_of_getElem? (i := 709) (by decide +kernel)⟩
theorem lw_p47 : lw_okq (⟨"TombLane$Rations", "owedTo", "(II)I"⟩, 6) := ⟨⟨by decide +kernel, by decide +kernel⟩, List.mem_of_getElem? (i := 223) (by decide +kernel), List.mem_of_getElem? (i := 717) (by decide +kernel), List.mem_of_getElem? (i := 718) (by decide +kernel)⟩
def lw_privs_3 : List (MethodName × Nat) := [(⟨"TombLane$Flakes", "giveUpOn", "(II)Z"⟩, 1), (⟨"TombLane$Men", "has", "(I)Z"⟩, 4), (⟨"TombLane$DayBook", "stateOf", "(III)I"⟩, 6), (⟨"TombLane$DayBook", "reckon", "(III)I"⟩, 6), (⟨"TombLane$Flake", "counts", "(I)Z"⟩, 4), (⟨"TombLane$DayBook", "hearFlake", "(LTombLane$Flake;II)V"⟩, 6), (⟨"TombLane$Line", "isOf", "(II)Z"⟩, 5), (⟨"TombLane$DayBook", "hearLine", "(LTombLane$Line;)V"⟩, 6), (⟨"TombLane$Line", "tells", "(I)I"⟩, 5), (⟨"TombLane$DayBook", "narrow", "(I)I"⟩, 6), (⟨"TombLane$DayBook", "menThatAre", "(II)I"⟩, 6), (⟨"TombLane$DayBook", "closeOpen", "(II)V"⟩, 6), (⟨"TombLane$DayBook", "daysByState", "(III)[I"⟩, 6), (⟨"TombLane$Rations", "setSacks", "(II)Z"⟩, 6), (⟨"TombLane$Rations", "take", "(III)I"⟩, 6), (⟨"TombLane$Rations", "owedTo", "(II)I"⟩, 6)]
theorem lw_r3 : ∀ q ∈ lw_privs_3, lw_okq q := List.forall_mem_cons.mpr ⟨lw_p32, List.forall_mem_cons.mpr ⟨lw_p33, List.forall_mem_cons.mpr ⟨lw_p34, List.forall_mem_cons.mpr ⟨lw_p35, List.forall_mem_cons.mpr ⟨lw_p36, List.forall_mem_cons.mpr ⟨lw_p37, List.forall_mem_cons.mpr ⟨lw_p38, List.forall_mem_cons.mpr ⟨lw_p39, List.forall_mem_cons.mpr ⟨lw_p40, List.forall_mem_cons.mpr ⟨lw_p41, List.forall_mem_cons.mpr ⟨lw_p42, List.forall_mem_cons.mpr ⟨lw_p43, List.forall_mem_cons.mpr ⟨lw_p44, List.forall_mem_cons.mpr ⟨lw_p45, List.forall_mem_cons.mpr ⟨lw_p46, List.forall_mem_cons.mpr ⟨lw_p47, fun _ h => absurd h List.not_mem_nil⟩⟩⟩⟩⟩⟩⟩⟩⟩⟩⟩⟩⟩⟩⟩⟩
theorem lw_p48 : lw_okq (⟨"TombLane$Debts", "setWorth", "(III)Z"⟩, 9) := ⟨⟨by decide +kernel, by decide +kernel⟩, List.mem_of_getElem? (i := 249) (by decide +kernel), List.mem_of_getElem? (i := 725) (by decide +kernel), List.mem_of_getElem? (i := 726) (by decide +kernel)⟩
theorem lw_p49 : lw_okq (⟨"TombLane$Debts", "add", "(IIIII)I"⟩, 9) := ⟨⟨by decide +kernel, by decide +kernel⟩, List.mem_of_getElem? (i := 249) (by decide +kernel), List.mem_of_getElem? (i := 733) (by decide +kernel), List.mem_of_getElem? (i := 734) (by decide +kernel)⟩
theorem lw_p50 : lw_okq (⟨"TombLane$Debts", "setPaid", "(II)Z"⟩, 9) := ⟨⟨by decide +kernel, by decide +kernel⟩, List.mem_of_getElem? (i := 249) (by decide +kernel), List.mem_of_getElem? (i := 741) (by decide +kernel), List.mem_of_getElem? (i := 742) (by decide +kernel)⟩
theorem lw_p51 : lw_okq (⟨"TombLane$Debts", "balancesOn", "(I)[I"⟩, 9) := ⟨⟨by decide +kernel, by decide +kernel⟩, List.mem_of_getElem? (i := 249) (by decide +kernel), List.mem_of_getElem? (i := 751) (by decide +kernel), List.mem_of_getElem? (i := 752) (by decide +kernel)⟩
theorem lw_p52 : lw_okq (⟨"TombLane$Settling", "payments", "([I)I"⟩, 2) := ⟨⟨by decide +kernel, by decide +kernel⟩, List.mem_of_getElem? (i := 284) (by decide +kernel), List.mem_of_getElem? (i := 759) (by decide +kernel), List.mem_of_getElem? (i := 760) (by decide +kernel)⟩
theorem lw_p53 : lw_okq (⟨"TombLane$Settling", "mostSetsAmong", "(I)I"⟩, 2) := ⟨⟨by decide +kernel, by decide +kernel⟩, List.mem_of_getElem? (i := 284) (by decide +kernel), List.mem_of_getElem? (i := 763) (by decide +kernel), List.mem_of_getElem? (i := 764) (by decide +kernel)⟩
theorem lw_p54 : lw_okq (⟨"TombLane$Settling", "mostSetsWithin", "(II)I"⟩, 2) := ⟨⟨by decide +kernel, by decide +kernel⟩, List.mem_of_getElem? (i := 284) (by decide +kernel), List.mem_of_getElem? (i := 767) (by decide +kernel), List.mem_of_getElem? (i := 768) (by decide +kernel)⟩
theorem lw_p55 : lw_okq (⟨"TombLane$Flakes", "count", "()I"⟩, 1) := ⟨⟨by decide +kernel, by decide +kernel⟩, List.mem_of_getElem? (i := 161) (by decide +kernel), List.mem_of_getElem? (i := 781) (by decide +kernel), List.mem_of_getElem? (i := 782) (by decide +kernel)⟩
theorem lw_p56 : lw_okq (⟨"TombLane$Flakes", "linesOf", "(I)I"⟩, 1) := ⟨⟨by decide +kernel, by decide +kernel⟩, List.mem_of_getElem? (i := 161) (by decide +kernel), List.mem_of_getElem? (i := 785) (by decide +kernel), List.mem_of_getElem? (i := 786) (by decide +kernel)⟩
theorem lw_p57 : lw_okq (⟨"TombLaneModel", "manOf", "(J)I"⟩, 42) := ⟨⟨by decide +kernel, by decide +kernel⟩, List.mem_of_getElem? (i := 820) (by decide +kernel), List.mem_of_getElem? (i := 818) (by decide +kernel), List.mem_of_getElem? (i := 819) (by decide +kernel)⟩
theorem lw_p58 : lw_okq (⟨"TombLaneModel", "isMan", "(I)Z"⟩, 42) := ⟨⟨by decide +kernel, by decide +kernel⟩, List.mem_of_getElem? (i := 820) (by decide +kernel), List.mem_of_getElem? (i := 827) (by decide +kernel), List.mem_of_getElem? (i := 828) (by decide +kernel)⟩
theorem lw_p59 : lw_okq (⟨"TombLaneModel", "next", "()V"⟩, 42) := ⟨⟨by decide +kernel, by decide +kernel⟩, List.mem_of_getElem? (i := 820) (by decide +kernel), List.mem_of_getElem? (i := 835) (by decide +kernel), List.mem_of_getElem? (i := 836) (by decide +kernel)⟩
theorem lw_p60 : lw_okq (⟨"TombLaneModel", "sign", "(I)I"⟩, 42) := ⟨⟨by decide +kernel, by decide +kernel⟩, List.mem_of_getElem? (i := 820) (by decide +kernel), List.mem_of_getElem? (i := 839) (by decide +kernel), List.mem_of_getElem? (i := 840) (by decide +kernel)⟩
theorem lw_p61 : lw_okq (⟨"TombLaneModel", "isGood", "()Z"⟩, 42) := ⟨⟨by decide +kernel, by decide +kernel⟩, List.mem_of_getElem? (i := 820) (by decide +kernel), List.mem_of_getElem? (i := 846) (by decide +kernel), List.mem_of_getElem? (i := 847) (by decide +kernel)⟩
theorem lw_p62 : lw_okq (⟨"TombLaneModel", "readLine", "()V"⟩, 42) := ⟨⟨by decide +kernel, by decide +kernel⟩, List.mem_of_getElem? (i := 820) (by decide +kernel), List.mem_of_getElem? (i := 850) (by decide +kernel), List.mem_of_getElem? (i := 851) (by decide +kernel)⟩
theorem lw_p63 : lw_okq (⟨"TombLaneModel", "isWord", "(J)Z"⟩, 42) := ⟨⟨by decide +kernel, by decide +kernel⟩, List.mem_of_getElem? (i := 820) (by decide +kernel), List.mem_of_getElem? (i := 854) (by decide +kernel), List.mem_of_getElem? (i := 855) (by decide +kernel)⟩
def lw_privs_4 : List (MethodName × Nat) := [(⟨"TombLane$Debts", "setWorth", "(III)Z"⟩, 9), (⟨"TombLane$Debts", "add", "(IIIII)I"⟩, 9), (⟨"TombLane$Debts", "setPaid", "(II)Z"⟩, 9), (⟨"TombLane$Debts", "balancesOn", "(I)[I"⟩, 9), (⟨"TombLane$Settling", "payments", "([I)I"⟩, 2), (⟨"TombLane$Settling", "mostSetsAmong", "(I)I"⟩, 2), (⟨"TombLane$Settling", "mostSetsWithin", "(II)I"⟩, 2), (⟨"TombLane$Flakes", "count", "()I"⟩, 1), (⟨"TombLane$Flakes", "linesOf", "(I)I"⟩, 1), (⟨"TombLaneModel", "manOf", "(J)I"⟩, 42), (⟨"TombLaneModel", "isMan", "(I)Z"⟩, 42), (⟨"TombLaneModel", "next", "()V"⟩, 42), (⟨"TombLaneModel", "sign", "(I)I"⟩, 42), (⟨"TombLaneModel", "isGood", "()Z"⟩, 42), (⟨"TombLaneModel", "readLine", "()V"⟩, 42), (⟨"TombLaneModel", "isWord", "(J)Z"⟩, 42)]
theorem lw_r4 : ∀ q ∈ lw_privs_4, lw_okq q := List.forall_mem_cons.mpr ⟨lw_p48, List.forall_mem_cons.mpr ⟨lw_p49, List.forall_mem_cons.mpr ⟨lw_p50, List.forall_mem_cons.mpr ⟨lw_p51, List.forall_mem_cons.mpr ⟨lw_p52, List.forall_mem_cons.mpr ⟨lw_p53, List.forall_mem_cons.mpr ⟨lw_p54, List.forall_mem_cons.mpr ⟨lw_p55, List.forall_mem_cons.mpr ⟨lw_p56, List.forall_mem_cons.mpr ⟨lw_p57, List.forall_mem_cons.mpr ⟨lw_p58, List.forall_mem_cons.mpr ⟨lw_p59, List.forall_mem_cons.mpr ⟨lw_p60, List.forall_mem_cons.mpr ⟨lw_p61, List.forall_mem_cons.mpr ⟨lw_p62, List.forall_mem_cons.mpr ⟨lw_p63, fun _ h => absurd h List.not_mem_nil⟩⟩⟩⟩⟩⟩⟩⟩⟩⟩⟩⟩⟩⟩⟩⟩
theorem lw_p64 : lw_okq (⟨"TombLaneModel", "wrong", "()V"⟩, 42) := ⟨⟨by decide +kernel, by decide +kernel⟩, List.mem_of_getElem? (i := 820) (by decide +kernel), List.mem_of_getElem? (i := 858) (by decide +kernel), List.mem_of_getElem? (i := 859) (by decide +kernel)⟩
theorem lw_p65 : lw_okq (⟨"TombLaneModel", "fails", "(II)V"⟩, 42) := ⟨⟨by decide +kernel, by decide +kernel⟩, List.mem_of_getElem? (i := 820) (by decide +kernel), List.mem_of_getElem? (i := 862) (by decide +kernel), List.mem_of_getElem? (i := 863) (by decide +kernel)⟩
theorem lw_p66 : lw_okq (⟨"TombLaneModel", "must", "(Z)V"⟩, 42) := ⟨⟨by decide +kernel, by decide +kernel⟩, List.mem_of_getElem? (i := 820) (by decide +kernel), List.mem_of_getElem? (i := 866) (by decide +kernel), List.mem_of_getElem? (i := 867) (by decide +kernel)⟩
theorem lw_p67 : lw_okq (⟨"TombLaneModel", "is", "(I)Z"⟩, 42) := ⟨⟨by decide +kernel, by decide +kernel⟩, List.mem_of_getElem? (i := 820) (by decide +kernel), List.mem_of_getElem? (i := 870) (by decide +kernel), List.mem_of_getElem? (i := 871) (by decide +kernel)⟩
theorem lw_p68 : lw_okq (⟨"TombLaneModel", "readEntry", "(I)V"⟩, 42) := ⟨⟨by decide +kernel, by decide +kernel⟩, List.mem_of_getElem? (i := 820) (by decide +kernel), List.mem_of_getElem? (i := 874) (by decide +kernel), List.mem_of_getElem? (i := 875) (by decide +kernel)⟩
theorem lw_p69 : lw_okq (⟨"TombLaneModel", "readWicks", "(I)V"⟩, 42) := ⟨⟨by decide +kernel, by decide +kernel⟩, List.mem_of_getElem? (i := 820) (by decide +kernel), List.mem_of_getElem? (i := 878) (by decide +kernel), List.mem_of_getElem? (i := 879) (by decide +kernel)⟩
theorem lw_p70 : lw_okq (⟨"TombLaneModel", "dayOf", "(III)I"⟩, 42) := ⟨⟨by decide +kernel, by decide +kernel⟩, List.mem_of_getElem? (i := 820) (by decide +kernel), List.mem_of_getElem? (i := 902) (by decide +kernel), List.mem_of_getElem? (i := 903) (by decide +kernel)⟩
theorem lw_p71 : lw_okq (⟨"TombLaneModel", "tellDay", "(III)V"⟩, 42) := ⟨⟨by decide +kernel, by decide +kernel⟩, List.mem_of_getElem? (i := 820) (by decide +kernel), List.mem_of_getElem? (i := 906) (by decide +kernel), List.mem_of_getElem? (i := 907) (by decide +kernel)⟩
theorem lw_p72 : lw_okq (⟨"TombLaneModel", "counts", "(II)Z"⟩, 42) := ⟨⟨by decide +kernel, by decide +kernel⟩, List.mem_of_getElem? (i := 820) (by decide +kernel), List.mem_of_getElem? (i := 910) (by decide +kernel), List.mem_of_getElem? (i := 911) (by decide +kernel)⟩
theorem lw_p73 : lw_okq (⟨"TombLaneModel", "saysOf", "(II)I"⟩, 42) := ⟨⟨by decide +kernel, by decide +kernel⟩, List.mem_of_getElem? (i := 820) (by decide +kernel), List.mem_of_getElem? (i := 914) (by decide +kernel), List.mem_of_getElem? (i := 915) (by decide +kernel)⟩
theorem lw_p74 : lw_okq (⟨"TombLaneModel", "burn", "(II)I"⟩, 42) := ⟨⟨by decide +kernel, by decide +kernel⟩, List.mem_of_getElem? (i := 820) (by decide +kernel), List.mem_of_getElem? (i := 921) (by decide +kernel), List.mem_of_getElem? (i := 922) (by decide +kernel)⟩
theorem lw_p75 : lw_okq (⟨"TombLaneModel", "balanceOf", "(II)I"⟩, 42) := ⟨⟨by decide +kernel, by decide +kernel⟩, List.mem_of_getElem? (i := 820) (by decide +kernel), List.mem_of_getElem? (i := 1103) (by decide +kernel), List.mem_of_getElem? (i := 1104) (by decide +kernel)⟩
def lw_privs_5 : List (MethodName × Nat) := [(⟨"TombLaneModel", "wrong", "()V"⟩, 42), (⟨"TombLaneModel", "fails", "(II)V"⟩, 42), (⟨"TombLaneModel", "must", "(Z)V"⟩, 42), (⟨"TombLaneModel", "is", "(I)Z"⟩, 42), (⟨"TombLaneModel", "readEntry", "(I)V"⟩, 42), (⟨"TombLaneModel", "readWicks", "(I)V"⟩, 42), (⟨"TombLaneModel", "dayOf", "(III)I"⟩, 42), (⟨"TombLaneModel", "tellDay", "(III)V"⟩, 42), (⟨"TombLaneModel", "counts", "(II)Z"⟩, 42), (⟨"TombLaneModel", "saysOf", "(II)I"⟩, 42), (⟨"TombLaneModel", "burn", "(II)I"⟩, 42), (⟨"TombLaneModel", "balanceOf", "(II)I"⟩, 42)]
theorem lw_r5 : ∀ q ∈ lw_privs_5, lw_okq q := List.forall_mem_cons.mpr ⟨lw_p64, List.forall_mem_cons.mpr ⟨lw_p65, List.forall_mem_cons.mpr ⟨lw_p66, List.forall_mem_cons.mpr ⟨lw_p67, List.forall_mem_cons.mpr ⟨lw_p68, List.forall_mem_cons.mpr ⟨lw_p69, List.forall_mem_cons.mpr ⟨lw_p70, List.forall_mem_cons.mpr ⟨lw_p71, List.forall_mem_cons.mpr ⟨lw_p72, List.forall_mem_cons.mpr ⟨lw_p73, List.forall_mem_cons.mpr ⟨lw_p74, List.forall_mem_cons.mpr ⟨lw_p75, fun _ h => absurd h List.not_mem_nil⟩⟩⟩⟩⟩⟩⟩⟩⟩⟩⟩⟩
def lw_privs : List (MethodName × Nat) := lw_privs_1 ++ (lw_privs_2 ++ (lw_privs_3 ++ (lw_privs_4 ++ (lw_privs_5))))
def lw_tbl : List Cond := k2_sels lw_privs ++ tables_1
theorem lw_privs_ok : ∀ q ∈ lw_privs, lw_okq q := by
  show ∀ q ∈ lw_privs_1 ++ (lw_privs_2 ++ (lw_privs_3 ++ (lw_privs_4 ++ (lw_privs_5)))), lw_okq q
  exact List.forall_mem_append.mpr ⟨lw_r1, List.forall_mem_append.mpr ⟨lw_r2, List.forall_mem_append.mpr ⟨lw_r3, List.forall_mem_append.mpr ⟨lw_r4, lw_r5⟩⟩⟩⟩
-- ===== end of PART A; then your names; then what follows =====
end
section
def T_AL : u_T := fun k => match k with
  | 0 => ("java/util/AbstractList", "modCount", "I", false)
  | 1 => ("java/util/ArrayList", "elementData", "[Ljava/lang/Object;", false)
  | _ => ("java/util/ArrayList", "size", "I", false)
def ty_AL : Nat → FieldType := fun k => match k with
  | 0 => .int
  | 1 => .array (.object "java/lang/Object")
  | _ => .int
theorem nm_AL : ∀ a, a < 3 → ∀ b, b < 3 → a ≠ b → (T_AL a).2.1 ≠ (T_AL b).2.1 := by decide +kernel
theorem ok_AL : ∀ k, k < 3 → parseFieldDescriptor (T_AL k).2.2.1 = some (ty_AL k) := by decide +kernel
def T_Dy : u_T := fun k => match k with
  | 0 => ("TombLane$DayBook", "men", "LTombLane$Men;", true)
  | 1 => ("TombLane$DayBook", "flakes", "LTombLane$Flakes;", true)
  | 2 => ("TombLane$DayBook", "states", "[I", true)
  | 3 => ("TombLane$DayBook", "daysOf", "[I", true)
  | 4 => ("TombLane$DayBook", "wicksTold", "I", false)
  | _ => ("TombLane$DayBook", "wicksUnlike", "Z", false)
def ty_Dy : Nat → FieldType := fun k => match k with
  | 0 => .object "TombLane$Men"
  | 1 => .object "TombLane$Flakes"
  | 2 => .array .int
  | 3 => .array .int
  | 4 => .int
  | _ => .boolean
theorem nm_Dy : ∀ a, a < 6 → ∀ b, b < 6 → a ≠ b → (T_Dy a).2.1 ≠ (T_Dy b).2.1 := by decide +kernel
theorem ok_Dy : ∀ k, k < 6 → parseFieldDescriptor (T_Dy k).2.2.1 = some (ty_Dy k) := by decide +kernel
def T_De : u_T := fun k => match k with
  | 0 => ("TombLane$Debts", "by", "[I", true)
  | 1 => ("TombLane$Debts", "to", "[I", true)
  | 2 => ("TombLane$Debts", "good", "[I", true)
  | 3 => ("TombLane$Debts", "many", "[I", true)
  | 4 => ("TombLane$Debts", "from", "[I", true)
  | 5 => ("TombLane$Debts", "paid", "[I", true)
  | 6 => ("TombLane$Debts", "count", "I", false)
  | 7 => ("TombLane$Debts", "worths", "[I", true)
  | _ => ("TombLane$Debts", "balances", "[I", true)
def ty_De : Nat → FieldType := fun k => match k with
  | 0 => .array .int
  | 1 => .array .int
  | 2 => .array .int
  | 3 => .array .int
  | 4 => .array .int
  | 5 => .array .int
  | 6 => .int
  | 7 => .array .int
  | _ => .array .int
theorem nm_De : ∀ a, a < 9 → ∀ b, b < 9 → a ≠ b → (T_De a).2.1 ≠ (T_De b).2.1 := by decide +kernel
theorem ok_De : ∀ k, k < 9 → parseFieldDescriptor (T_De k).2.2.1 = some (ty_De k) := by decide +kernel
def T_Fk : u_T := fun k => match k with
  | 0 => ("TombLane$Flake", "found", "I", true)
  | 1 => ("TombLane$Flake", "lines", "Ljava/util/ArrayList;", true)
  | 2 => ("TombLane$Flake", "givenUp", "Z", false)
  | _ => ("TombLane$Flake", "givenUpOn", "I", false)
def ty_Fk : Nat → FieldType := fun k => match k with
  | 0 => .int
  | 1 => .object "java/util/ArrayList"
  | 2 => .boolean
  | _ => .int
theorem nm_Fk : ∀ a, a < 4 → ∀ b, b < 4 → a ≠ b → (T_Fk a).2.1 ≠ (T_Fk b).2.1 := by decide +kernel
theorem ok_Fk : ∀ k, k < 4 → parseFieldDescriptor (T_Fk k).2.2.1 = some (ty_Fk k) := by decide +kernel
def T_Re : u_T := fun k => match k with
  | 0 => ("TombLane$FlakeReader", "tokens", "LTombLane$Tokens;", true)
  | 1 => ("TombLane$FlakeReader", "men", "LTombLane$Men;", true)
  | 2 => ("TombLane$FlakeReader", "fault", "I", false)
  | 3 => ("TombLane$FlakeReader", "place", "I", false)
  | 4 => ("TombLane$FlakeReader", "expected", "I", false)
  | 5 => ("TombLane$FlakeReader", "lineDay", "I", false)
  | 6 => ("TombLane$FlakeReader", "line", "LTombLane$Line;", false)
  | _ => ("TombLane$FlakeReader", "named", "I", false)
def ty_Re : Nat → FieldType := fun k => match k with
  | 0 => .object "TombLane$Tokens"
  | 1 => .object "TombLane$Men"
  | 2 => .int
  | 3 => .int
  | 4 => .int
  | 5 => .int
  | 6 => .object "TombLane$Line"
  | _ => .int
theorem nm_Re : ∀ a, a < 8 → ∀ b, b < 8 → a ≠ b → (T_Re a).2.1 ≠ (T_Re b).2.1 := by decide +kernel
theorem ok_Re : ∀ k, k < 8 → parseFieldDescriptor (T_Re k).2.2.1 = some (ty_Re k) := by decide +kernel
def T_Fs : u_T := fun k => match k with
  | _ => ("TombLane$Flakes", "kept", "Ljava/util/ArrayList;", true)
def ty_Fs : Nat → FieldType := fun k => match k with
  | _ => .object "java/util/ArrayList"
theorem nm_Fs : ∀ a, a < 1 → ∀ b, b < 1 → a ≠ b → (T_Fs a).2.1 ≠ (T_Fs b).2.1 := by decide +kernel
theorem ok_Fs : ∀ k, k < 1 → parseFieldDescriptor (T_Fs k).2.2.1 = some (ty_Fs k) := by decide +kernel
def T_Li : u_T := fun k => match k with
  | 0 => ("TombLane$Line", "day", "I", true)
  | 1 => ("TombLane$Line", "side", "I", true)
  | 2 => ("TombLane$Line", "entries", "[I", true)
  | 3 => ("TombLane$Line", "gap", "Z", false)
  | _ => ("TombLane$Line", "wicksTold", "I", false)
def ty_Li : Nat → FieldType := fun k => match k with
  | 0 => .int
  | 1 => .int
  | 2 => .array .int
  | 3 => .boolean
  | _ => .int
theorem nm_Li : ∀ a, a < 5 → ∀ b, b < 5 → a ≠ b → (T_Li a).2.1 ≠ (T_Li b).2.1 := by decide +kernel
theorem ok_Li : ∀ k, k < 5 → parseFieldDescriptor (T_Li k).2.2.1 = some (ty_Li k) := by decide +kernel
def T_Me : u_T := fun k => match k with
  | 0 => ("TombLane$Men", "name", "[J", true)
  | 1 => ("TombLane$Men", "side", "[I", true)
  | 2 => ("TombLane$Men", "rank", "[I", true)
  | _ => ("TombLane$Men", "count", "I", false)
def ty_Me : Nat → FieldType := fun k => match k with
  | 0 => .array .long
  | 1 => .array .int
  | 2 => .array .int
  | _ => .int
theorem nm_Me : ∀ a, a < 4 → ∀ b, b < 4 → a ≠ b → (T_Me a).2.1 ≠ (T_Me b).2.1 := by decide +kernel
theorem ok_Me : ∀ k, k < 4 → parseFieldDescriptor (T_Me k).2.2.1 = some (ty_Me k) := by decide +kernel
def T_Ra : u_T := fun k => match k with
  | 0 => ("TombLane$Rations", "men", "LTombLane$Men;", true)
  | 1 => ("TombLane$Rations", "sacksByRank", "[I", true)
  | 2 => ("TombLane$Rations", "to", "[I", true)
  | 3 => ("TombLane$Rations", "on", "[I", true)
  | 4 => ("TombLane$Rations", "sacks", "[I", true)
  | _ => ("TombLane$Rations", "count", "I", false)
def ty_Ra : Nat → FieldType := fun k => match k with
  | 0 => .object "TombLane$Men"
  | 1 => .array .int
  | 2 => .array .int
  | 3 => .array .int
  | 4 => .array .int
  | _ => .int
theorem nm_Ra : ∀ a, a < 6 → ∀ b, b < 6 → a ≠ b → (T_Ra a).2.1 ≠ (T_Ra b).2.1 := by decide +kernel
theorem ok_Ra : ∀ k, k < 6 → parseFieldDescriptor (T_Ra k).2.2.1 = some (ty_Ra k) := by decide +kernel
def T_Se : u_T := fun k => match k with
  | 0 => ("TombLane$Settling", "sums", "[I", true)
  | _ => ("TombLane$Settling", "mostSets", "[I", true)
def ty_Se : Nat → FieldType := fun k => match k with
  | 0 => .array .int
  | _ => .array .int
theorem nm_Se : ∀ a, a < 2 → ∀ b, b < 2 → a ≠ b → (T_Se a).2.1 ≠ (T_Se b).2.1 := by decide +kernel
theorem ok_Se : ∀ k, k < 2 → parseFieldDescriptor (T_Se k).2.2.1 = some (ty_Se k) := by decide +kernel
def T_Ta : u_T := fun k => match k with
  | 0 => ("TombLane$Tape", "bytes", "[I", true)
  | _ => ("TombLane$Tape", "length", "I", false)
def ty_Ta : Nat → FieldType := fun k => match k with
  | 0 => .array .int
  | _ => .int
theorem nm_Ta : ∀ a, a < 2 → ∀ b, b < 2 → a ≠ b → (T_Ta a).2.1 ≠ (T_Ta b).2.1 := by decide +kernel
theorem ok_Ta : ∀ k, k < 2 → parseFieldDescriptor (T_Ta k).2.2.1 = some (ty_Ta k) := by decide +kernel
def T_To : u_T := fun k => match k with
  | 0 => ("TombLane$Tokens", "tape", "LTombLane$Tape;", true)
  | 1 => ("TombLane$Tokens", "next", "I", false)
  | 2 => ("TombLane$Tokens", "kind", "I", false)
  | 3 => ("TombLane$Tokens", "place", "I", false)
  | _ => ("TombLane$Tokens", "value", "J", false)
def ty_To : Nat → FieldType := fun k => match k with
  | 0 => .object "TombLane$Tape"
  | 1 => .int
  | 2 => .int
  | 3 => .int
  | _ => .long
theorem nm_To : ∀ a, a < 5 → ∀ b, b < 5 → a ≠ b → (T_To a).2.1 ≠ (T_To b).2.1 := by decide +kernel
theorem ok_To : ∀ k, k < 5 → parseFieldDescriptor (T_To k).2.2.1 = some (ty_To k) := by decide +kernel
def T_TL : u_T := fun k => match k with
  | 0 => ("TombLane", "men", "LTombLane$Men;", true)
  | 1 => ("TombLane", "tape", "LTombLane$Tape;", true)
  | 2 => ("TombLane", "reader", "LTombLane$FlakeReader;", true)
  | 3 => ("TombLane", "flakes", "LTombLane$Flakes;", true)
  | 4 => ("TombLane", "book", "LTombLane$DayBook;", true)
  | 5 => ("TombLane", "rations", "LTombLane$Rations;", true)
  | 6 => ("TombLane", "debts", "LTombLane$Debts;", true)
  | 7 => ("TombLane", "settling", "LTombLane$Settling;", true)
  | _ => ("TombLane", "date", "I", false)
def ty_TL : Nat → FieldType := fun k => match k with
  | 0 => .object "TombLane$Men"
  | 1 => .object "TombLane$Tape"
  | 2 => .object "TombLane$FlakeReader"
  | 3 => .object "TombLane$Flakes"
  | 4 => .object "TombLane$DayBook"
  | 5 => .object "TombLane$Rations"
  | 6 => .object "TombLane$Debts"
  | 7 => .object "TombLane$Settling"
  | _ => .int
theorem nm_TL : ∀ a, a < 9 → ∀ b, b < 9 → a ≠ b → (T_TL a).2.1 ≠ (T_TL b).2.1 := by decide +kernel
theorem ok_TL : ∀ k, k < 9 → parseFieldDescriptor (T_TL k).2.2.1 = some (ty_TL k) := by decide +kernel
def T_Mo : u_T := fun k => match k with
  | 0 => ("TombLaneModel", "names", "[J", true)
  | 1 => ("TombLaneModel", "sides", "[I", true)
  | 2 => ("TombLaneModel", "ranks", "[I", true)
  | 3 => ("TombLaneModel", "men", "I", false)
  | 4 => ("TombLaneModel", "date", "I", false)
  | 5 => ("TombLaneModel", "tape", "[B", true)
  | 6 => ("TombLaneModel", "text", "[B", true)
  | 7 => ("TombLaneModel", "taped", "I", false)
  | 8 => ("TombLaneModel", "size", "I", false)
  | 9 => ("TombLaneModel", "faultKind", "I", false)
  | 10 => ("TombLaneModel", "faultPlace", "I", false)
  | 11 => ("TombLaneModel", "at", "I", false)
  | 12 => ("TombLaneModel", "end", "I", false)
  | 13 => ("TombLaneModel", "token", "I", false)
  | 14 => ("TombLaneModel", "number", "I", false)
  | 15 => ("TombLaneModel", "name", "J", false)
  | 16 => ("TombLaneModel", "lineMany", "[I", true)
  | 17 => ("TombLaneModel", "lDay", "[I", true)
  | 18 => ("TombLaneModel", "lSide", "[I", true)
  | 19 => ("TombLaneModel", "lWicks", "[I", true)
  | 20 => ("TombLaneModel", "says", "[I", true)
  | 21 => ("TombLaneModel", "found", "[I", true)
  | 22 => ("TombLaneModel", "given", "[I", true)
  | 23 => ("TombLaneModel", "hasGap", "[Z", true)
  | 24 => ("TombLaneModel", "flakes", "I", false)
  | 25 => ("TombLaneModel", "did", "[I", true)
  | 26 => ("TombLaneModel", "wicksAre", "I", false)
  | 27 => ("TombLaneModel", "sacksOf", "[I", true)
  | 28 => ("TombLaneModel", "cMan", "[I", true)
  | 29 => ("TombLaneModel", "cDay", "[I", true)
  | 30 => ("TombLaneModel", "cSacks", "[I", true)
  | 31 => ("TombLaneModel", "worths", "[I", true)
  | 32 => ("TombLaneModel", "comes", "I", false)
  | 33 => ("TombLaneModel", "dBy", "[I", true)
  | 34 => ("TombLaneModel", "dTo", "[I", true)
  | 35 => ("TombLaneModel", "dGood", "[I", true)
  | 36 => ("TombLaneModel", "dMany", "[I", true)
  | 37 => ("TombLaneModel", "dDay", "[I", true)
  | 38 => ("TombLaneModel", "dPaid", "[I", true)
  | 39 => ("TombLaneModel", "sums", "[I", true)
  | 40 => ("TombLaneModel", "groups", "[I", true)
  | _ => ("TombLaneModel", "debts", "I", false)
def ty_Mo : Nat → FieldType := fun k => match k with
  | 0 => .array .long
  | 1 => .array .int
  | 2 => .array .int
  | 3 => .int
  | 4 => .int
  | 5 => .array .byte
  | 6 => .array .byte
  | 7 => .int
  | 8 => .int
  | 9 => .int
  | 10 => .int
  | 11 => .int
  | 12 => .int
  | 13 => .int
  | 14 => .int
  | 15 => .long
  | 16 => .array .int
  | 17 => .array .int
  | 18 => .array .int
  | 19 => .array .int
  | 20 => .array .int
  | 21 => .array .int
  | 22 => .array .int
  | 23 => .array .boolean
  | 24 => .int
  | 25 => .array .int
  | 26 => .int
  | 27 => .array .int
  | 28 => .array .int
  | 29 => .array .int
  | 30 => .array .int
  | 31 => .array .int
  | 32 => .int
  | 33 => .array .int
  | 34 => .array .int
  | 35 => .array .int
  | 36 => .array .int
  | 37 => .array .int
  | 38 => .array .int
  | 39 => .array .int
  | 40 => .array .int
  | _ => .int
theorem nm_Mo : ∀ a, a < 42 → ∀ b, b < 42 → a ≠ b → (T_Mo a).2.1 ≠ (T_Mo b).2.1 := by decide +kernel
theorem ok_Mo : ∀ k, k < 42 → parseFieldDescriptor (T_Mo k).2.2.1 = some (ty_Mo k) := by decide +kernel
abbrev vwCl : List vw_C := [("java/util/ArrayList", T_AL, 3), ("TombLane$DayBook", T_Dy, 6), ("TombLane$Debts", T_De, 9), ("TombLane$Flake", T_Fk, 4), ("TombLane$FlakeReader", T_Re, 8), ("TombLane$Flakes", T_Fs, 1), ("TombLane$Line", T_Li, 5), ("TombLane$Men", T_Me, 4), ("TombLane$Rations", T_Ra, 6), ("TombLane$Settling", T_Se, 2), ("TombLane$Tape", T_Ta, 2), ("TombLane$Tokens", T_To, 5), ("TombLane", T_TL, 9), ("TombLaneModel", T_Mo, 42)]
abbrev b_Dy_init : ByteArray := prog_2_method_1_code
def y_Dy_init : MethodName := ⟨"TombLane$DayBook", "<init>", "(LTombLane$Men;LTombLane$Flakes;)V"⟩
abbrev b_Dy_stateOf : ByteArray := prog_2_method_2_code
def y_Dy_stateOf : MethodName := ⟨"TombLane$DayBook", "stateOf", "(III)I"⟩
abbrev b_Dy_daysByState : ByteArray := prog_2_method_3_code
def y_Dy_daysByState : MethodName := ⟨"TombLane$DayBook", "daysByState", "(III)[I"⟩
abbrev b_Dy_reckon : ByteArray := prog_2_method_4_code
def y_Dy_reckon : MethodName := ⟨"TombLane$DayBook", "reckon", "(III)I"⟩
abbrev b_Dy_hearFlake : ByteArray := prog_2_method_5_code
def y_Dy_hearFlake : MethodName := ⟨"TombLane$DayBook", "hearFlake", "(LTombLane$Flake;II)V"⟩
abbrev b_Dy_hearLine : ByteArray := prog_2_method_6_code
def y_Dy_hearLine : MethodName := ⟨"TombLane$DayBook", "hearLine", "(LTombLane$Line;)V"⟩
abbrev b_Dy_joined : ByteArray := prog_2_method_7_code
def y_Dy_joined : MethodName := ⟨"TombLane$DayBook", "joined", "(II)I"⟩
abbrev b_Dy_narrow : ByteArray := prog_2_method_8_code
def y_Dy_narrow : MethodName := ⟨"TombLane$DayBook", "narrow", "(I)I"⟩
abbrev b_Dy_menThatAre : ByteArray := prog_2_method_9_code
def y_Dy_menThatAre : MethodName := ⟨"TombLane$DayBook", "menThatAre", "(II)I"⟩
abbrev b_Dy_closeOpen : ByteArray := prog_2_method_10_code
def y_Dy_closeOpen : MethodName := ⟨"TombLane$DayBook", "closeOpen", "(II)V"⟩
abbrev b_De_init : ByteArray := prog_3_method_1_code
def y_De_init : MethodName := ⟨"TombLane$Debts", "<init>", "()V"⟩
abbrev b_De_setWorth : ByteArray := prog_3_method_2_code
def y_De_setWorth : MethodName := ⟨"TombLane$Debts", "setWorth", "(III)Z"⟩
abbrev b_De_add : ByteArray := prog_3_method_3_code
def y_De_add : MethodName := ⟨"TombLane$Debts", "add", "(IIIII)I"⟩
abbrev b_De_setPaid : ByteArray := prog_3_method_4_code
def y_De_setPaid : MethodName := ⟨"TombLane$Debts", "setPaid", "(II)Z"⟩
abbrev b_De_balancesOn : ByteArray := prog_3_method_5_code
def y_De_balancesOn : MethodName := ⟨"TombLane$Debts", "balancesOn", "(I)[I"⟩
abbrev b_Fk_init : ByteArray := prog_4_method_1_code
def y_Fk_init : MethodName := ⟨"TombLane$Flake", "<init>", "(I)V"⟩
abbrev b_Fk_counts : ByteArray := prog_4_method_2_code
def y_Fk_counts : MethodName := ⟨"TombLane$Flake", "counts", "(I)Z"⟩
abbrev b_Re_init : ByteArray := prog_5_method_1_code
def y_Re_init : MethodName := ⟨"TombLane$FlakeReader", "<init>", "(LTombLane$Tape;LTombLane$Men;)V"⟩
abbrev b_Re_read : ByteArray := prog_5_method_2_code
def y_Re_read : MethodName := ⟨"TombLane$FlakeReader", "read", "(LTombLane$Flake;)Z"⟩
abbrev b_Re_faultOfToken : ByteArray := prog_5_method_3_code
def y_Re_faultOfToken : MethodName := ⟨"TombLane$FlakeReader", "faultOfToken", "(LTombLane$Flake;)I"⟩
abbrev b_Re_takeLine : ByteArray := prog_5_method_4_code
def y_Re_takeLine : MethodName := ⟨"TombLane$FlakeReader", "takeLine", "(LTombLane$Flake;)I"⟩
abbrev b_Re_takeDayNumber : ByteArray := prog_5_method_5_code
def y_Re_takeDayNumber : MethodName := ⟨"TombLane$FlakeReader", "takeDayNumber", "()I"⟩
abbrev b_Re_takeGang : ByteArray := prog_5_method_6_code
def y_Re_takeGang : MethodName := ⟨"TombLane$FlakeReader", "takeGang", "(LTombLane$Flake;)I"⟩
abbrev b_Re_takeSign : ByteArray := prog_5_method_7_code
def y_Re_takeSign : MethodName := ⟨"TombLane$FlakeReader", "takeSign", "(CI)I"⟩
abbrev b_Re_takeEntry : ByteArray := prog_5_method_8_code
def y_Re_takeEntry : MethodName := ⟨"TombLane$FlakeReader", "takeEntry", "()I"⟩
abbrev b_Re_takeName : ByteArray := prog_5_method_9_code
def y_Re_takeName : MethodName := ⟨"TombLane$FlakeReader", "takeName", "()I"⟩
abbrev b_Re_takeToldOfName : ByteArray := prog_5_method_10_code
def y_Re_takeToldOfName : MethodName := ⟨"TombLane$FlakeReader", "takeToldOfName", "()I"⟩
abbrev b_Re_takeWicksNumber : ByteArray := prog_5_method_11_code
def y_Re_takeWicksNumber : MethodName := ⟨"TombLane$FlakeReader", "takeWicksNumber", "()I"⟩
abbrev b_Re_expect : ByteArray := prog_5_method_12_code
def y_Re_expect : MethodName := ⟨"TombLane$FlakeReader", "expect", "(I)I"⟩
abbrev b_Fs_init : ByteArray := prog_6_method_1_code
def y_Fs_init : MethodName := ⟨"TombLane$Flakes", "<init>", "()V"⟩
abbrev b_Fs_count : ByteArray := prog_6_method_2_code
def y_Fs_count : MethodName := ⟨"TombLane$Flakes", "count", "()I"⟩
abbrev b_Fs_isFull : ByteArray := prog_6_method_3_code
def y_Fs_isFull : MethodName := ⟨"TombLane$Flakes", "isFull", "()Z"⟩
abbrev b_Fs_keep : ByteArray := prog_6_method_4_code
def y_Fs_keep : MethodName := ⟨"TombLane$Flakes", "keep", "(LTombLane$Flake;)I"⟩
abbrev b_Fs_giveUpOn : ByteArray := prog_6_method_5_code
def y_Fs_giveUpOn : MethodName := ⟨"TombLane$Flakes", "giveUpOn", "(II)Z"⟩
abbrev b_Fs_linesOf : ByteArray := prog_6_method_6_code
def y_Fs_linesOf : MethodName := ⟨"TombLane$Flakes", "linesOf", "(I)I"⟩
abbrev b_Li_init : ByteArray := prog_7_method_1_code
def y_Li_init : MethodName := ⟨"TombLane$Line", "<init>", "(II)V"⟩
abbrev b_Li_isOf : ByteArray := prog_7_method_2_code
def y_Li_isOf : MethodName := ⟨"TombLane$Line", "isOf", "(II)Z"⟩
abbrev b_Li_names : ByteArray := prog_7_method_3_code
def y_Li_names : MethodName := ⟨"TombLane$Line", "names", "(I)Z"⟩
abbrev b_Li_tells : ByteArray := prog_7_method_4_code
def y_Li_tells : MethodName := ⟨"TombLane$Line", "tells", "(I)I"⟩
abbrev b_Me_init : ByteArray := prog_8_method_1_code
def y_Me_init : MethodName := ⟨"TombLane$Men", "<init>", "()V"⟩
abbrev b_Me_has : ByteArray := prog_8_method_2_code
def y_Me_has : MethodName := ⟨"TombLane$Men", "has", "(I)Z"⟩
abbrev b_Me_add : ByteArray := prog_8_method_3_code
def y_Me_add : MethodName := ⟨"TombLane$Men", "add", "(JII)I"⟩
abbrev b_Me_find : ByteArray := prog_8_method_4_code
def y_Me_find : MethodName := ⟨"TombLane$Men", "find", "(J)I"⟩
abbrev b_Me_findInGang : ByteArray := prog_8_method_5_code
def y_Me_findInGang : MethodName := ⟨"TombLane$Men", "findInGang", "(JI)I"⟩
abbrev b_Ra_init : ByteArray := prog_9_method_1_code
def y_Ra_init : MethodName := ⟨"TombLane$Rations", "<init>", "(LTombLane$Men;)V"⟩
abbrev b_Ra_setSacks : ByteArray := prog_9_method_2_code
def y_Ra_setSacks : MethodName := ⟨"TombLane$Rations", "setSacks", "(II)Z"⟩
abbrev b_Ra_take : ByteArray := prog_9_method_3_code
def y_Ra_take : MethodName := ⟨"TombLane$Rations", "take", "(III)I"⟩
abbrev b_Ra_owedTo : ByteArray := prog_9_method_4_code
def y_Ra_owedTo : MethodName := ⟨"TombLane$Rations", "owedTo", "(II)I"⟩
abbrev b_Se_init : ByteArray := prog_10_method_1_code
def y_Se_init : MethodName := ⟨"TombLane$Settling", "<init>", "()V"⟩
abbrev b_Se_payments : ByteArray := prog_10_method_2_code
def y_Se_payments : MethodName := ⟨"TombLane$Settling", "payments", "([I)I"⟩
abbrev b_Se_mostSetsAmong : ByteArray := prog_10_method_3_code
def y_Se_mostSetsAmong : MethodName := ⟨"TombLane$Settling", "mostSetsAmong", "(I)I"⟩
abbrev b_Se_mostSetsWithin : ByteArray := prog_10_method_4_code
def y_Se_mostSetsWithin : MethodName := ⟨"TombLane$Settling", "mostSetsWithin", "(II)I"⟩
abbrev b_Ta_init : ByteArray := prog_11_method_1_code
def y_Ta_init : MethodName := ⟨"TombLane$Tape", "<init>", "()V"⟩
abbrev b_Ta_hasRoomFor : ByteArray := prog_11_method_2_code
def y_Ta_hasRoomFor : MethodName := ⟨"TombLane$Tape", "hasRoomFor", "(I)Z"⟩
abbrev b_Ta_append : ByteArray := prog_11_method_3_code
def y_Ta_append : MethodName := ⟨"TombLane$Tape", "append", "(I)V"⟩
abbrev b_Ta_cut : ByteArray := prog_11_method_4_code
def y_Ta_cut : MethodName := ⟨"TombLane$Tape", "cut", "(I)Z"⟩
abbrev b_Ta_at : ByteArray := prog_11_method_5_code
def y_Ta_at : MethodName := ⟨"TombLane$Tape", "at", "(I)I"⟩
abbrev b_To_init : ByteArray := prog_12_method_1_code
def y_To_init : MethodName := ⟨"TombLane$Tokens", "<init>", "(LTombLane$Tape;)V"⟩
abbrev b_To_restart : ByteArray := prog_12_method_2_code
def y_To_restart : MethodName := ⟨"TombLane$Tokens", "restart", "()V"⟩
abbrev b_To_advance : ByteArray := prog_12_method_3_code
def y_To_advance : MethodName := ⟨"TombLane$Tokens", "advance", "()V"⟩
abbrev b_To_skipBlanks : ByteArray := prog_12_method_4_code
def y_To_skipBlanks : MethodName := ⟨"TombLane$Tokens", "skipBlanks", "()V"⟩
abbrev b_To_readWord : ByteArray := prog_12_method_5_code
def y_To_readWord : MethodName := ⟨"TombLane$Tokens", "readWord", "()V"⟩
abbrev b_To_readNumber : ByteArray := prog_12_method_6_code
def y_To_readNumber : MethodName := ⟨"TombLane$Tokens", "readNumber", "()V"⟩
abbrev b_To_readSign : ByteArray := prog_12_method_7_code
def y_To_readSign : MethodName := ⟨"TombLane$Tokens", "readSign", "(I)V"⟩
abbrev b_To_isSign : ByteArray := prog_12_method_8_code
def y_To_isSign : MethodName := ⟨"TombLane$Tokens", "isSign", "(C)Z"⟩
abbrev b_To_isWord : ByteArray := prog_12_method_9_code
def y_To_isWord : MethodName := ⟨"TombLane$Tokens", "isWord", "(J)Z"⟩
abbrev b_TL_init : ByteArray := prog_1_method_1_code
def y_TL_init : MethodName := ⟨"TombLane", "<init>", "()V"⟩
abbrev b_TL_man : ByteArray := prog_1_method_2_code
def y_TL_man : MethodName := ⟨"TombLane", "man", "(JII)I"⟩
abbrev b_TL_feed : ByteArray := prog_1_method_3_code
def y_TL_feed : MethodName := ⟨"TombLane", "feed", "(IIIII)I"⟩
abbrev b_TL_end : ByteArray := prog_1_method_4_code
def y_TL_end : MethodName := ⟨"TombLane", "end", "(I)I"⟩
abbrev b_TL_flake : ByteArray := prog_1_method_5_code
def y_TL_flake : MethodName := ⟨"TombLane", "flake", "()I"⟩
abbrev b_TL_fault : ByteArray := prog_1_method_6_code
def y_TL_fault : MethodName := ⟨"TombLane", "fault", "(I)I"⟩
abbrev b_TL_giveUp : ByteArray := prog_1_method_7_code
def y_TL_giveUp : MethodName := ⟨"TombLane", "giveUp", "(I)Z"⟩
abbrev b_TL_later : ByteArray := prog_1_method_8_code
def y_TL_later : MethodName := ⟨"TombLane", "later", "(I)I"⟩
abbrev b_TL_day : ByteArray := prog_1_method_9_code
def y_TL_day : MethodName := ⟨"TombLane", "day", "(III)I"⟩
abbrev b_TL_wicks : ByteArray := prog_1_method_10_code
def y_TL_wicks : MethodName := ⟨"TombLane", "wicks", "(III)I"⟩
abbrev b_TL_span : ByteArray := prog_1_method_11_code
def y_TL_span : MethodName := ⟨"TombLane", "span", "(IIIZ)I"⟩
abbrev b_TL_missed : ByteArray := prog_1_method_12_code
def y_TL_missed : MethodName := ⟨"TombLane", "missed", "(IIII)I"⟩
abbrev b_TL_ration : ByteArray := prog_1_method_13_code
def y_TL_ration : MethodName := ⟨"TombLane", "ration", "(II)Z"⟩
abbrev b_TL_come : ByteArray := prog_1_method_14_code
def y_TL_come : MethodName := ⟨"TombLane", "come", "(III)I"⟩
abbrev b_TL_arrears : ByteArray := prog_1_method_15_code
def y_TL_arrears : MethodName := ⟨"TombLane", "arrears", "(II)I"⟩
abbrev b_TL_worth : ByteArray := prog_1_method_16_code
def y_TL_worth : MethodName := ⟨"TombLane", "worth", "(III)Z"⟩
abbrev b_TL_debt : ByteArray := prog_1_method_17_code
def y_TL_debt : MethodName := ⟨"TombLane", "debt", "(IIIII)I"⟩
abbrev b_TL_pay : ByteArray := prog_1_method_18_code
def y_TL_pay : MethodName := ⟨"TombLane", "pay", "(II)Z"⟩
abbrev b_TL_balance : ByteArray := prog_1_method_19_code
def y_TL_balance : MethodName := ⟨"TombLane", "balance", "(II)I"⟩
abbrev b_TL_fewest : ByteArray := prog_1_method_20_code
def y_TL_fewest : MethodName := ⟨"TombLane", "fewest", "(I)I"⟩
abbrev b_TL_of : ByteArray := prog_1_method_21_code
def y_TL_of : MethodName := ⟨"TombLane", "of", "(II)I"⟩
abbrev b_TL_about : ByteArray := prog_1_method_22_code
def y_TL_about : MethodName := ⟨"TombLane", "about", "(I)I"⟩
abbrev b_TL_isBelow : ByteArray := prog_1_method_23_code
def y_TL_isBelow : MethodName := ⟨"TombLane", "isBelow", "(II)Z"⟩
abbrev b_TL_isLetter : ByteArray := prog_1_method_24_code
def y_TL_isLetter : MethodName := ⟨"TombLane", "isLetter", "(I)Z"⟩
abbrev b_TL_isDigit : ByteArray := prog_1_method_25_code
def y_TL_isDigit : MethodName := ⟨"TombLane", "isDigit", "(I)Z"⟩
abbrev b_TL_lettersOf : ByteArray := prog_1_method_26_code
def y_TL_lettersOf : MethodName := ⟨"TombLane", "lettersOf", "(J)I"⟩
abbrev b_TL_reasonOf : ByteArray := prog_1_method_27_code
def y_TL_reasonOf : MethodName := ⟨"TombLane", "reasonOf", "(J)I"⟩
abbrev b_TL_sideOf : ByteArray := prog_1_method_28_code
def y_TL_sideOf : MethodName := ⟨"TombLane", "sideOf", "(J)I"⟩
abbrev b_TL_isFree : ByteArray := prog_1_method_29_code
def y_TL_isFree : MethodName := ⟨"TombLane", "isFree", "(J)Z"⟩
abbrev b_Mo_isMan : ByteArray := prog_14_method_1_code
def y_Mo_isMan : MethodName := ⟨"TombLaneModel", "isMan", "(I)Z"⟩
abbrev b_Mo_isLetter : ByteArray := prog_14_method_2_code
def y_Mo_isLetter : MethodName := ⟨"TombLaneModel", "isLetter", "(I)Z"⟩
abbrev b_Mo_isDigit : ByteArray := prog_14_method_3_code
def y_Mo_isDigit : MethodName := ⟨"TombLaneModel", "isDigit", "(I)Z"⟩
abbrev b_Mo_reasonOf : ByteArray := prog_14_method_4_code
def y_Mo_reasonOf : MethodName := ⟨"TombLaneModel", "reasonOf", "(J)I"⟩
abbrev b_Mo_isKept : ByteArray := prog_14_method_5_code
def y_Mo_isKept : MethodName := ⟨"TombLaneModel", "isKept", "(J)Z"⟩
abbrev b_Mo_lettersOf : ByteArray := prog_14_method_6_code
def y_Mo_lettersOf : MethodName := ⟨"TombLaneModel", "lettersOf", "(J)I"⟩
abbrev b_Mo_isName : ByteArray := prog_14_method_7_code
def y_Mo_isName : MethodName := ⟨"TombLaneModel", "isName", "(J)Z"⟩
abbrev b_Mo_manOf : ByteArray := prog_14_method_8_code
def y_Mo_manOf : MethodName := ⟨"TombLaneModel", "manOf", "(J)I"⟩
abbrev b_Mo_man : ByteArray := prog_14_method_9_code
def y_Mo_man : MethodName := ⟨"TombLaneModel", "man", "(JII)I"⟩
abbrev b_Mo_of : ByteArray := prog_14_method_10_code
def y_Mo_of : MethodName := ⟨"TombLaneModel", "of", "(II)I"⟩
abbrev b_Mo_sign : ByteArray := prog_14_method_11_code
def y_Mo_sign : MethodName := ⟨"TombLaneModel", "sign", "(I)I"⟩
abbrev b_Mo_fails : ByteArray := prog_14_method_12_code
def y_Mo_fails : MethodName := ⟨"TombLaneModel", "fails", "(II)V"⟩
abbrev b_Mo_isGood : ByteArray := prog_14_method_13_code
def y_Mo_isGood : MethodName := ⟨"TombLaneModel", "isGood", "()Z"⟩
abbrev b_Mo_next : ByteArray := prog_14_method_14_code
def y_Mo_next : MethodName := ⟨"TombLaneModel", "next", "()V"⟩
abbrev b_Mo_is : ByteArray := prog_14_method_15_code
def y_Mo_is : MethodName := ⟨"TombLaneModel", "is", "(I)Z"⟩
abbrev b_Mo_isWord : ByteArray := prog_14_method_16_code
def y_Mo_isWord : MethodName := ⟨"TombLaneModel", "isWord", "(J)Z"⟩
abbrev b_Mo_wrong : ByteArray := prog_14_method_17_code
def y_Mo_wrong : MethodName := ⟨"TombLaneModel", "wrong", "()V"⟩
abbrev b_Mo_must : ByteArray := prog_14_method_18_code
def y_Mo_must : MethodName := ⟨"TombLaneModel", "must", "(Z)V"⟩
abbrev b_Mo_flake : ByteArray := prog_14_method_19_code
def y_Mo_flake : MethodName := ⟨"TombLaneModel", "flake", "()I"⟩
abbrev b_Mo_readLine : ByteArray := prog_14_method_20_code
def y_Mo_readLine : MethodName := ⟨"TombLaneModel", "readLine", "()V"⟩
abbrev b_Mo_readEntry : ByteArray := prog_14_method_21_code
def y_Mo_readEntry : MethodName := ⟨"TombLaneModel", "readEntry", "(I)V"⟩
abbrev b_Mo_readWicks : ByteArray := prog_14_method_22_code
def y_Mo_readWicks : MethodName := ⟨"TombLaneModel", "readWicks", "(I)V"⟩
abbrev b_Mo_fault : ByteArray := prog_14_method_23_code
def y_Mo_fault : MethodName := ⟨"TombLaneModel", "fault", "(I)I"⟩
abbrev b_Mo_giveUp : ByteArray := prog_14_method_24_code
def y_Mo_giveUp : MethodName := ⟨"TombLaneModel", "giveUp", "(I)Z"⟩
abbrev b_Mo_later : ByteArray := prog_14_method_25_code
def y_Mo_later : MethodName := ⟨"TombLaneModel", "later", "(I)I"⟩
abbrev b_Mo_counts : ByteArray := prog_14_method_26_code
def y_Mo_counts : MethodName := ⟨"TombLaneModel", "counts", "(II)Z"⟩
abbrev b_Mo_saysOf : ByteArray := prog_14_method_27_code
def y_Mo_saysOf : MethodName := ⟨"TombLaneModel", "saysOf", "(II)I"⟩
abbrev b_Mo_tellDay : ByteArray := prog_14_method_28_code
def y_Mo_tellDay : MethodName := ⟨"TombLaneModel", "tellDay", "(III)V"⟩
abbrev b_Mo_joined : ByteArray := prog_14_method_29_code
def y_Mo_joined : MethodName := ⟨"TombLaneModel", "joined", "(II)I"⟩
abbrev b_Mo_burn : ByteArray := prog_14_method_30_code
def y_Mo_burn : MethodName := ⟨"TombLaneModel", "burn", "(II)I"⟩
abbrev b_Mo_isDay : ByteArray := prog_14_method_31_code
def y_Mo_isDay : MethodName := ⟨"TombLaneModel", "isDay", "(I)Z"⟩
abbrev b_Mo_dayOf : ByteArray := prog_14_method_32_code
def y_Mo_dayOf : MethodName := ⟨"TombLaneModel", "dayOf", "(III)I"⟩
abbrev b_Mo_day : ByteArray := prog_14_method_33_code
def y_Mo_day : MethodName := ⟨"TombLaneModel", "day", "(III)I"⟩
abbrev b_Mo_wicks : ByteArray := prog_14_method_34_code
def y_Mo_wicks : MethodName := ⟨"TombLaneModel", "wicks", "(III)I"⟩
abbrev b_Mo_isMonth : ByteArray := prog_14_method_35_code
def y_Mo_isMonth : MethodName := ⟨"TombLaneModel", "isMonth", "(I)Z"⟩
abbrev b_Mo_span : ByteArray := prog_14_method_36_code
def y_Mo_span : MethodName := ⟨"TombLaneModel", "span", "(IIIZ)I"⟩
abbrev b_Mo_missed : ByteArray := prog_14_method_37_code
def y_Mo_missed : MethodName := ⟨"TombLaneModel", "missed", "(IIII)I"⟩
abbrev b_Mo_init : ByteArray := prog_14_method_38_code
def y_Mo_init : MethodName := ⟨"TombLaneModel", "<init>", "()V"⟩
abbrev b_Mo_ration : ByteArray := prog_14_method_39_code
def y_Mo_ration : MethodName := ⟨"TombLaneModel", "ration", "(II)Z"⟩
abbrev b_Mo_come : ByteArray := prog_14_method_40_code
def y_Mo_come : MethodName := ⟨"TombLaneModel", "come", "(III)I"⟩
abbrev b_Mo_arrears : ByteArray := prog_14_method_41_code
def y_Mo_arrears : MethodName := ⟨"TombLaneModel", "arrears", "(II)I"⟩
abbrev b_Mo_worth : ByteArray := prog_14_method_42_code
def y_Mo_worth : MethodName := ⟨"TombLaneModel", "worth", "(III)Z"⟩
abbrev b_Mo_debt : ByteArray := prog_14_method_43_code
def y_Mo_debt : MethodName := ⟨"TombLaneModel", "debt", "(IIIII)I"⟩
abbrev b_Mo_pay : ByteArray := prog_14_method_44_code
def y_Mo_pay : MethodName := ⟨"TombLaneModel", "pay", "(II)Z"⟩
abbrev b_Mo_balanceOf : ByteArray := prog_14_method_45_code
def y_Mo_balanceOf : MethodName := ⟨"TombLaneModel", "balanceOf", "(II)I"⟩
abbrev b_Mo_balance : ByteArray := prog_14_method_46_code
def y_Mo_balance : MethodName := ⟨"TombLaneModel", "balance", "(II)I"⟩
abbrev b_Mo_fewest : ByteArray := prog_14_method_47_code
def y_Mo_fewest : MethodName := ⟨"TombLaneModel", "fewest", "(I)I"⟩
abbrev b_Mo_about : ByteArray := prog_14_method_48_code
def y_Mo_about : MethodName := ⟨"TombLaneModel", "about", "(I)I"⟩
abbrev b_Mo_feed : ByteArray := prog_14_method_49_code
def y_Mo_feed : MethodName := ⟨"TombLaneModel", "feed", "(IIIII)I"⟩
abbrev b_Mo_end : ByteArray := prog_14_method_50_code
def y_Mo_end : MethodName := ⟨"TombLaneModel", "end", "(I)I"⟩
abbrev b_Ma_max : ByteArray := prog_18_method_65_code
def y_Ma_max : MethodName := ⟨"java/lang/Math", "max", "(II)I"⟩
abbrev b_Ma_min : ByteArray := prog_18_method_69_code
def y_Ma_min : MethodName := ⟨"java/lang/Math", "min", "(II)I"⟩
abbrev b_AbC_init : ByteArray := prog_20_method_1_code
def y_AbC_init : MethodName := ⟨"java/util/AbstractCollection", "<init>", "()V"⟩
abbrev b_AbL_init : ByteArray := prog_21_method_1_code
def y_AbL_init : MethodName := ⟨"java/util/AbstractList", "<init>", "()V"⟩
abbrev b_AL_init : ByteArray := prog_22_method_2_code
def y_AL_init : MethodName := ⟨"java/util/ArrayList", "<init>", "()V"⟩
abbrev b_AL_grow1 : ByteArray := prog_22_method_6_code
def y_AL_grow1 : MethodName := ⟨"java/util/ArrayList", "grow", "(I)[Ljava/lang/Object;"⟩
abbrev b_AL_grow0 : ByteArray := prog_22_method_7_code
def y_AL_grow0 : MethodName := ⟨"java/util/ArrayList", "grow", "()[Ljava/lang/Object;"⟩
abbrev b_AL_size : ByteArray := prog_22_method_8_code
def y_AL_size : MethodName := ⟨"java/util/ArrayList", "size", "()I"⟩
abbrev b_AL_elementData : ByteArray := prog_22_method_18_code
def y_AL_elementData : MethodName := ⟨"java/util/ArrayList", "elementData", "(I)Ljava/lang/Object;"⟩
abbrev b_AL_get : ByteArray := prog_22_method_20_code
def y_AL_get : MethodName := ⟨"java/util/ArrayList", "get", "(I)Ljava/lang/Object;"⟩
abbrev b_AL_add3 : ByteArray := prog_22_method_24_code
def y_AL_add3 : MethodName := ⟨"java/util/ArrayList", "add", "(Ljava/lang/Object;[Ljava/lang/Object;I)V"⟩
abbrev b_AL_add : ByteArray := prog_22_method_25_code
def y_AL_add : MethodName := ⟨"java/util/ArrayList", "add", "(Ljava/lang/Object;)Z"⟩
abbrev b_As_copyOf : ByteArray := prog_23_method_119_code
def y_As_copyOf : MethodName := ⟨"java/util/Arrays", "copyOf", "([Ljava/lang/Object;I)[Ljava/lang/Object;"⟩
abbrev b_As_copyOf3 : ByteArray := prog_23_method_120_code
def y_As_copyOf3 : MethodName := ⟨"java/util/Arrays", "copyOf", "([Ljava/lang/Object;ILjava/lang/Class;)[Ljava/lang/Object;"⟩
abbrev b_Ob_checkIndex : ByteArray := prog_26_method_17_code
def y_Ob_checkIndex : MethodName := ⟨"java/util/Objects", "checkIndex", "(II)I"⟩
abbrev b_Su_newLength : ByteArray := prog_29_method_27_code
def y_Su_newLength : MethodName := ⟨"jdk/internal/util/ArraysSupport", "newLength", "(III)I"⟩
abbrev b_Su_hugeLength : ByteArray := prog_29_method_28_code
def y_Su_hugeLength : MethodName := ⟨"jdk/internal/util/ArraysSupport", "hugeLength", "(II)I"⟩
abbrev b_Pr_checkIndex : ByteArray := prog_30_method_11_code
def y_Pr_checkIndex : MethodName := ⟨"jdk/internal/util/Preconditions", "checkIndex", "(IILjava/util/function/BiFunction;)I"⟩
abbrev b_La_law : ByteArray := code
def y_La_law : MethodName := ⟨"TombLaneLaw", "law", "([I)Z"⟩
def big : List Cond := lw_tbl.filter goodWord
theorem big_mem {w : Cond} (i : Nat) (h : lw_tbl[i]? = some w) (g : goodWord w = true) : w ∈ big := List.mem_filter.mpr ⟨List.mem_of_getElem? h, g⟩
def isN : Cond → Bool
  | .fieldLinkNest _ _ _ _ _ _ => true
  | .methodLinkNest _ _ _ _ => true
  | .castable _ _ => true
  | .declares _ => true
  | _ => false
def nn : List Cond := lw_tbl.filter isN
theorem nn_mem {w : Cond} (i : Nat) (h : lw_tbl[i]? = some w) (g : isN w = true) : w ∈ nn := List.mem_filter.mpr ⟨List.mem_of_getElem? h, g⟩
def dq (b : ByteArray) (pc : Nat) (i : Instr) (q : Nat) : Prop := ∃ n : Nat, decode b pc = .ok (i, n) ∧ pc + n = q
def dj (b : ByteArray) (pc : Nat) (i : Int → Instr) (q tgt : Nat) : Prop := ∃ off : Int, decode b pc = .ok (i off, 3) ∧ pc + 3 = q ∧ (pc : Int) + off = (tgt : Int)
theorem in_AL : ∀ w ∈ u_ws "java/util/ArrayList" T_AL 3, w ∈ big := by
  intro w hw
  have h : u_ws "java/util/ArrayList" T_AL 3 = [265, 261, 263].filterMap (fun i => lw_tbl[i]?) := by decide +kernel
  have g : (u_ws "java/util/ArrayList" T_AL 3).all goodWord = true := by decide +kernel
  refine List.mem_filter.mpr ⟨?_, List.all_eq_true.mp g w hw⟩
  rw [h] at hw
  obtain ⟨i, -, hi⟩ := List.mem_filterMap.mp hw
  exact List.mem_of_getElem? hi
theorem in_Dy : ∀ w ∈ u_ws "TombLane$DayBook" T_Dy 6, w ∈ big := by
  intro w hw
  have h : u_ws "TombLane$DayBook" T_Dy 6 = [285, 287, 289, 291, 293, 295].filterMap (fun i => lw_tbl[i]?) := by decide +kernel
  have g : (u_ws "TombLane$DayBook" T_Dy 6).all goodWord = true := by decide +kernel
  refine List.mem_filter.mpr ⟨?_, List.all_eq_true.mp g w hw⟩
  rw [h] at hw
  obtain ⟨i, -, hi⟩ := List.mem_filterMap.mp hw
  exact List.mem_of_getElem? hi
theorem in_De : ∀ w ∈ u_ws "TombLane$Debts" T_De 9, w ∈ big := by
  intro w hw
  have h : u_ws "TombLane$Debts" T_De 9 = [340, 342, 344, 346, 348, 350, 352, 354, 356].filterMap (fun i => lw_tbl[i]?) := by decide +kernel
  have g : (u_ws "TombLane$Debts" T_De 9).all goodWord = true := by decide +kernel
  refine List.mem_filter.mpr ⟨?_, List.all_eq_true.mp g w hw⟩
  rw [h] at hw
  obtain ⟨i, -, hi⟩ := List.mem_filterMap.mp hw
  exact List.mem_of_getElem? hi
theorem in_Fk : ∀ w ∈ u_ws "TombLane$Flake" T_Fk 4, w ∈ big := by
  intro w hw
  have h : u_ws "TombLane$Flake" T_Fk 4 = [488, 490, 492, 494].filterMap (fun i => lw_tbl[i]?) := by decide +kernel
  have g : (u_ws "TombLane$Flake" T_Fk 4).all goodWord = true := by decide +kernel
  refine List.mem_filter.mpr ⟨?_, List.all_eq_true.mp g w hw⟩
  rw [h] at hw
  obtain ⟨i, -, hi⟩ := List.mem_filterMap.mp hw
  exact List.mem_of_getElem? hi
theorem in_Re : ∀ w ∈ u_ws "TombLane$FlakeReader" T_Re 8, w ∈ big := by
  intro w hw
  have h : u_ws "TombLane$FlakeReader" T_Re 8 = [219, 221, 223, 225, 227, 229, 231, 233].filterMap (fun i => lw_tbl[i]?) := by decide +kernel
  have g : (u_ws "TombLane$FlakeReader" T_Re 8).all goodWord = true := by decide +kernel
  refine List.mem_filter.mpr ⟨?_, List.all_eq_true.mp g w hw⟩
  rw [h] at hw
  obtain ⟨i, -, hi⟩ := List.mem_filterMap.mp hw
  exact List.mem_of_getElem? hi
theorem in_Fs : ∀ w ∈ u_ws "TombLane$Flakes" T_Fs 1, w ∈ big := by
  intro w hw
  have h : u_ws "TombLane$Flakes" T_Fs 1 = [270].filterMap (fun i => lw_tbl[i]?) := by decide +kernel
  have g : (u_ws "TombLane$Flakes" T_Fs 1).all goodWord = true := by decide +kernel
  refine List.mem_filter.mpr ⟨?_, List.all_eq_true.mp g w hw⟩
  rw [h] at hw
  obtain ⟨i, -, hi⟩ := List.mem_filterMap.mp hw
  exact List.mem_of_getElem? hi
theorem in_Li : ∀ w ∈ u_ws "TombLane$Line" T_Li 5, w ∈ big := by
  intro w hw
  have h : u_ws "TombLane$Line" T_Li 5 = [173, 175, 177, 179, 181].filterMap (fun i => lw_tbl[i]?) := by decide +kernel
  have g : (u_ws "TombLane$Line" T_Li 5).all goodWord = true := by decide +kernel
  refine List.mem_filter.mpr ⟨?_, List.all_eq_true.mp g w hw⟩
  rw [h] at hw
  obtain ⟨i, -, hi⟩ := List.mem_filterMap.mp hw
  exact List.mem_of_getElem? hi
theorem in_Me : ∀ w ∈ u_ws "TombLane$Men" T_Me 4, w ∈ big := by
  intro w hw
  have h : u_ws "TombLane$Men" T_Me 4 = [124, 126, 128, 130].filterMap (fun i => lw_tbl[i]?) := by decide +kernel
  have g : (u_ws "TombLane$Men" T_Me 4).all goodWord = true := by decide +kernel
  refine List.mem_filter.mpr ⟨?_, List.all_eq_true.mp g w hw⟩
  rw [h] at hw
  obtain ⟨i, -, hi⟩ := List.mem_filterMap.mp hw
  exact List.mem_of_getElem? hi
theorem in_Ra : ∀ w ∈ u_ws "TombLane$Rations" T_Ra 6, w ∈ big := by
  intro w hw
  have h : u_ws "TombLane$Rations" T_Ra 6 = [311, 313, 315, 317, 319, 321].filterMap (fun i => lw_tbl[i]?) := by decide +kernel
  have g : (u_ws "TombLane$Rations" T_Ra 6).all goodWord = true := by decide +kernel
  refine List.mem_filter.mpr ⟨?_, List.all_eq_true.mp g w hw⟩
  rw [h] at hw
  obtain ⟨i, -, hi⟩ := List.mem_filterMap.mp hw
  exact List.mem_of_getElem? hi
theorem in_Se : ∀ w ∈ u_ws "TombLane$Settling" T_Se 2, w ∈ big := by
  intro w hw
  have h : u_ws "TombLane$Settling" T_Se 2 = [367, 369].filterMap (fun i => lw_tbl[i]?) := by decide +kernel
  have g : (u_ws "TombLane$Settling" T_Se 2).all goodWord = true := by decide +kernel
  refine List.mem_filter.mpr ⟨?_, List.all_eq_true.mp g w hw⟩
  rw [h] at hw
  obtain ⟨i, -, hi⟩ := List.mem_filterMap.mp hw
  exact List.mem_of_getElem? hi
theorem in_Ta : ∀ w ∈ u_ws "TombLane$Tape" T_Ta 2, w ∈ big := by
  intro w hw
  have h : u_ws "TombLane$Tape" T_Ta 2 = [145, 147].filterMap (fun i => lw_tbl[i]?) := by decide +kernel
  have g : (u_ws "TombLane$Tape" T_Ta 2).all goodWord = true := by decide +kernel
  refine List.mem_filter.mpr ⟨?_, List.all_eq_true.mp g w hw⟩
  rw [h] at hw
  obtain ⟨i, -, hi⟩ := List.mem_filterMap.mp hw
  exact List.mem_of_getElem? hi
theorem in_To : ∀ w ∈ u_ws "TombLane$Tokens" T_To 5, w ∈ big := by
  intro w hw
  have h : u_ws "TombLane$Tokens" T_To 5 = [198, 200, 202, 204, 206].filterMap (fun i => lw_tbl[i]?) := by decide +kernel
  have g : (u_ws "TombLane$Tokens" T_To 5).all goodWord = true := by decide +kernel
  refine List.mem_filter.mpr ⟨?_, List.all_eq_true.mp g w hw⟩
  rw [h] at hw
  obtain ⟨i, -, hi⟩ := List.mem_filterMap.mp hw
  exact List.mem_of_getElem? hi
theorem in_TL : ∀ w ∈ u_ws "TombLane" T_TL 9, w ∈ big := by
  intro w hw
  have h : u_ws "TombLane" T_TL 9 = [381, 383, 385, 387, 389, 391, 393, 395, 397].filterMap (fun i => lw_tbl[i]?) := by decide +kernel
  have g : (u_ws "TombLane" T_TL 9).all goodWord = true := by decide +kernel
  refine List.mem_filter.mpr ⟨?_, List.all_eq_true.mp g w hw⟩
  rw [h] at hw
  obtain ⟨i, -, hi⟩ := List.mem_filterMap.mp hw
  exact List.mem_of_getElem? hi
theorem in_Mo : ∀ w ∈ u_ws "TombLaneModel" T_Mo 42, w ∈ big := by
  intro w hw
  have h : u_ws "TombLaneModel" T_Mo 42 = [1062, 1064, 1066, 1068, 1070, 1072, 1074, 1076, 1078, 1080, 1082, 1084, 1086, 1088, 1090, 1092, 1094, 1096, 1098, 1100, 1102, 1104, 1106, 1108, 1110, 1112, 1114, 1116, 1118, 1120, 1122, 1124, 1126, 1128, 1130, 1132, 1134, 1136, 1138, 1140, 1142, 1144].filterMap (fun i => lw_tbl[i]?) := by decide +kernel
  have g : (u_ws "TombLaneModel" T_Mo 42).all goodWord = true := by decide +kernel
  refine List.mem_filter.mpr ⟨?_, List.all_eq_true.mp g w hw⟩
  rw [h] at hw
  obtain ⟨i, -, hi⟩ := List.mem_filterMap.mp hw
  exact List.mem_of_getElem? hi
end
section
theorem kw_0 : Cond.selects "TombLane$Men" ⟨"TombLane$Men", "add", "(JII)I"⟩ ⟨"TombLane$Men", "add", "(JII)I"⟩ ∈ big := big_mem 0 (by decide +kernel) rfl
theorem kw_1 : Cond.selects "TombLane$Men" ⟨"TombLane$Men", "find", "(J)I"⟩ ⟨"TombLane$Men", "find", "(J)I"⟩ ∈ big := big_mem 1 (by decide +kernel) rfl
theorem kw_2 : Cond.selects "TombLane$Tape" ⟨"TombLane$Tape", "hasRoomFor", "(I)Z"⟩ ⟨"TombLane$Tape", "hasRoomFor", "(I)Z"⟩ ∈ big := big_mem 2 (by decide +kernel) rfl
theorem kw_3 : Cond.selects "TombLane$Tape" ⟨"TombLane$Tape", "append", "(I)V"⟩ ⟨"TombLane$Tape", "append", "(I)V"⟩ ∈ big := big_mem 3 (by decide +kernel) rfl
theorem kw_4 : Cond.selects "TombLane$Tape" ⟨"TombLane$Tape", "cut", "(I)Z"⟩ ⟨"TombLane$Tape", "cut", "(I)Z"⟩ ∈ big := big_mem 4 (by decide +kernel) rfl
theorem kw_5 : Cond.selects "TombLane$Flakes" ⟨"TombLane$Flakes", "isFull", "()Z"⟩ ⟨"TombLane$Flakes", "isFull", "()Z"⟩ ∈ big := big_mem 5 (by decide +kernel) rfl
theorem kw_6 : Cond.selects "TombLane$FlakeReader" ⟨"TombLane$FlakeReader", "read", "(LTombLane$Flake;)Z"⟩ ⟨"TombLane$FlakeReader", "read", "(LTombLane$Flake;)Z"⟩ ∈ big := big_mem 6 (by decide +kernel) rfl
theorem kw_7 : Cond.selects "TombLane$Tokens" ⟨"TombLane$Tokens", "restart", "()V"⟩ ⟨"TombLane$Tokens", "restart", "()V"⟩ ∈ big := big_mem 7 (by decide +kernel) rfl
theorem kw_8 : Cond.selects "TombLane$Tokens" ⟨"TombLane$Tokens", "advance", "()V"⟩ ⟨"TombLane$Tokens", "advance", "()V"⟩ ∈ big := big_mem 8 (by decide +kernel) rfl
theorem kw_9 : Cond.selects "TombLane$Tokens" ⟨"TombLane$Tokens", "skipBlanks", "()V"⟩ ⟨"TombLane$Tokens", "skipBlanks", "()V"⟩ ∈ big := big_mem 9 (by decide +kernel) rfl
theorem kw_10 : Cond.selects "TombLane$Tape" ⟨"TombLane$Tape", "at", "(I)I"⟩ ⟨"TombLane$Tape", "at", "(I)I"⟩ ∈ big := big_mem 10 (by decide +kernel) rfl
theorem kw_11 : Cond.selects "TombLane$Tokens" ⟨"TombLane$Tokens", "readWord", "()V"⟩ ⟨"TombLane$Tokens", "readWord", "()V"⟩ ∈ big := big_mem 11 (by decide +kernel) rfl
theorem kw_12 : Cond.selects "TombLane$Tokens" ⟨"TombLane$Tokens", "readNumber", "()V"⟩ ⟨"TombLane$Tokens", "readNumber", "()V"⟩ ∈ big := big_mem 12 (by decide +kernel) rfl
theorem kw_13 : Cond.selects "TombLane$Tokens" ⟨"TombLane$Tokens", "readSign", "(I)V"⟩ ⟨"TombLane$Tokens", "readSign", "(I)V"⟩ ∈ big := big_mem 13 (by decide +kernel) rfl
theorem kw_14 : Cond.selects "TombLane$FlakeReader" ⟨"TombLane$FlakeReader", "faultOfToken", "(LTombLane$Flake;)I"⟩ ⟨"TombLane$FlakeReader", "faultOfToken", "(LTombLane$Flake;)I"⟩ ∈ big := big_mem 14 (by decide +kernel) rfl
theorem kw_15 : Cond.selects "TombLane$FlakeReader" ⟨"TombLane$FlakeReader", "takeLine", "(LTombLane$Flake;)I"⟩ ⟨"TombLane$FlakeReader", "takeLine", "(LTombLane$Flake;)I"⟩ ∈ big := big_mem 15 (by decide +kernel) rfl
theorem kw_16 : Cond.selects "TombLane$Tokens" ⟨"TombLane$Tokens", "isWord", "(J)Z"⟩ ⟨"TombLane$Tokens", "isWord", "(J)Z"⟩ ∈ big := big_mem 16 (by decide +kernel) rfl
theorem kw_17 : Cond.selects "TombLane$FlakeReader" ⟨"TombLane$FlakeReader", "expect", "(I)I"⟩ ⟨"TombLane$FlakeReader", "expect", "(I)I"⟩ ∈ big := big_mem 17 (by decide +kernel) rfl
theorem kw_18 : Cond.selects "TombLane$FlakeReader" ⟨"TombLane$FlakeReader", "takeDayNumber", "()I"⟩ ⟨"TombLane$FlakeReader", "takeDayNumber", "()I"⟩ ∈ big := big_mem 18 (by decide +kernel) rfl
theorem kw_19 : Cond.selects "TombLane$FlakeReader" ⟨"TombLane$FlakeReader", "takeGang", "(LTombLane$Flake;)I"⟩ ⟨"TombLane$FlakeReader", "takeGang", "(LTombLane$Flake;)I"⟩ ∈ big := big_mem 19 (by decide +kernel) rfl
theorem kw_20 : Cond.selects "java/util/ArrayList" ⟨"java/util/ArrayList", "add", "(Ljava/lang/Object;[Ljava/lang/Object;I)V"⟩ ⟨"java/util/ArrayList", "add", "(Ljava/lang/Object;[Ljava/lang/Object;I)V"⟩ ∈ big := big_mem 20 (by decide +kernel) rfl
theorem kw_21 : Cond.selects "java/util/ArrayList" ⟨"java/util/ArrayList", "grow", "()[Ljava/lang/Object;"⟩ ⟨"java/util/ArrayList", "grow", "()[Ljava/lang/Object;"⟩ ∈ big := big_mem 21 (by decide +kernel) rfl
theorem kw_22 : Cond.selects "java/util/ArrayList" ⟨"java/util/ArrayList", "grow", "(I)[Ljava/lang/Object;"⟩ ⟨"java/util/ArrayList", "grow", "(I)[Ljava/lang/Object;"⟩ ∈ big := big_mem 22 (by decide +kernel) rfl
theorem kw_23 : Cond.selects "TombLane$FlakeReader" ⟨"TombLane$FlakeReader", "takeSign", "(CI)I"⟩ ⟨"TombLane$FlakeReader", "takeSign", "(CI)I"⟩ ∈ big := big_mem 23 (by decide +kernel) rfl
theorem kw_24 : Cond.selects "TombLane$Tokens" ⟨"TombLane$Tokens", "isSign", "(C)Z"⟩ ⟨"TombLane$Tokens", "isSign", "(C)Z"⟩ ∈ big := big_mem 24 (by decide +kernel) rfl
theorem kw_25 : Cond.selects "TombLane$FlakeReader" ⟨"TombLane$FlakeReader", "takeEntry", "()I"⟩ ⟨"TombLane$FlakeReader", "takeEntry", "()I"⟩ ∈ big := big_mem 25 (by decide +kernel) rfl
theorem kw_26 : Cond.selects "TombLane$FlakeReader" ⟨"TombLane$FlakeReader", "takeName", "()I"⟩ ⟨"TombLane$FlakeReader", "takeName", "()I"⟩ ∈ big := big_mem 26 (by decide +kernel) rfl
theorem kw_27 : Cond.selects "TombLane$Men" ⟨"TombLane$Men", "findInGang", "(JI)I"⟩ ⟨"TombLane$Men", "findInGang", "(JI)I"⟩ ∈ big := big_mem 27 (by decide +kernel) rfl
theorem kw_28 : Cond.selects "TombLane$Line" ⟨"TombLane$Line", "names", "(I)Z"⟩ ⟨"TombLane$Line", "names", "(I)Z"⟩ ∈ big := big_mem 28 (by decide +kernel) rfl
theorem kw_29 : Cond.selects "TombLane$FlakeReader" ⟨"TombLane$FlakeReader", "takeToldOfName", "()I"⟩ ⟨"TombLane$FlakeReader", "takeToldOfName", "()I"⟩ ∈ big := big_mem 29 (by decide +kernel) rfl
theorem kw_30 : Cond.selects "TombLane$FlakeReader" ⟨"TombLane$FlakeReader", "takeWicksNumber", "()I"⟩ ⟨"TombLane$FlakeReader", "takeWicksNumber", "()I"⟩ ∈ big := big_mem 30 (by decide +kernel) rfl
theorem kw_31 : Cond.selects "TombLane$Flakes" ⟨"TombLane$Flakes", "keep", "(LTombLane$Flake;)I"⟩ ⟨"TombLane$Flakes", "keep", "(LTombLane$Flake;)I"⟩ ∈ big := big_mem 31 (by decide +kernel) rfl
theorem kw_32 : Cond.selects "TombLane$Flakes" ⟨"TombLane$Flakes", "giveUpOn", "(II)Z"⟩ ⟨"TombLane$Flakes", "giveUpOn", "(II)Z"⟩ ∈ big := big_mem 32 (by decide +kernel) rfl
theorem kw_33 : Cond.selects "TombLane$Men" ⟨"TombLane$Men", "has", "(I)Z"⟩ ⟨"TombLane$Men", "has", "(I)Z"⟩ ∈ big := big_mem 33 (by decide +kernel) rfl
theorem kw_34 : Cond.selects "TombLane$DayBook" ⟨"TombLane$DayBook", "stateOf", "(III)I"⟩ ⟨"TombLane$DayBook", "stateOf", "(III)I"⟩ ∈ big := big_mem 34 (by decide +kernel) rfl
theorem kw_35 : Cond.selects "TombLane$DayBook" ⟨"TombLane$DayBook", "reckon", "(III)I"⟩ ⟨"TombLane$DayBook", "reckon", "(III)I"⟩ ∈ big := big_mem 35 (by decide +kernel) rfl
theorem kw_36 : Cond.selects "TombLane$Flake" ⟨"TombLane$Flake", "counts", "(I)Z"⟩ ⟨"TombLane$Flake", "counts", "(I)Z"⟩ ∈ big := big_mem 36 (by decide +kernel) rfl
theorem kw_37 : Cond.selects "TombLane$DayBook" ⟨"TombLane$DayBook", "hearFlake", "(LTombLane$Flake;II)V"⟩ ⟨"TombLane$DayBook", "hearFlake", "(LTombLane$Flake;II)V"⟩ ∈ big := big_mem 37 (by decide +kernel) rfl
theorem kw_38 : Cond.selects "TombLane$Line" ⟨"TombLane$Line", "isOf", "(II)Z"⟩ ⟨"TombLane$Line", "isOf", "(II)Z"⟩ ∈ big := big_mem 38 (by decide +kernel) rfl
theorem kw_39 : Cond.selects "TombLane$DayBook" ⟨"TombLane$DayBook", "hearLine", "(LTombLane$Line;)V"⟩ ⟨"TombLane$DayBook", "hearLine", "(LTombLane$Line;)V"⟩ ∈ big := big_mem 39 (by decide +kernel) rfl
theorem kw_40 : Cond.selects "TombLane$Line" ⟨"TombLane$Line", "tells", "(I)I"⟩ ⟨"TombLane$Line", "tells", "(I)I"⟩ ∈ big := big_mem 40 (by decide +kernel) rfl
theorem kw_41 : Cond.selects "TombLane$DayBook" ⟨"TombLane$DayBook", "narrow", "(I)I"⟩ ⟨"TombLane$DayBook", "narrow", "(I)I"⟩ ∈ big := big_mem 41 (by decide +kernel) rfl
theorem kw_42 : Cond.selects "TombLane$DayBook" ⟨"TombLane$DayBook", "menThatAre", "(II)I"⟩ ⟨"TombLane$DayBook", "menThatAre", "(II)I"⟩ ∈ big := big_mem 42 (by decide +kernel) rfl
theorem kw_43 : Cond.selects "TombLane$DayBook" ⟨"TombLane$DayBook", "closeOpen", "(II)V"⟩ ⟨"TombLane$DayBook", "closeOpen", "(II)V"⟩ ∈ big := big_mem 43 (by decide +kernel) rfl
theorem kw_44 : Cond.selects "TombLane$DayBook" ⟨"TombLane$DayBook", "daysByState", "(III)[I"⟩ ⟨"TombLane$DayBook", "daysByState", "(III)[I"⟩ ∈ big := big_mem 44 (by decide +kernel) rfl
theorem kw_45 : Cond.selects "TombLane$Rations" ⟨"TombLane$Rations", "setSacks", "(II)Z"⟩ ⟨"TombLane$Rations", "setSacks", "(II)Z"⟩ ∈ big := big_mem 45 (by decide +kernel) rfl
theorem kw_46 : Cond.selects "TombLane$Rations" ⟨"TombLane$Rations", "take", "(III)I"⟩ ⟨"TombLane$Rations", "take", "(III)I"⟩ ∈ big := big_mem 46 (by decide +kernel) rfl
theorem kw_47 : Cond.selects "TombLane$Rations" ⟨"TombLane$Rations", "owedTo", "(II)I"⟩ ⟨"TombLane$Rations", "owedTo", "(II)I"⟩ ∈ big := big_mem 47 (by decide +kernel) rfl
theorem kw_48 : Cond.selects "TombLane$Debts" ⟨"TombLane$Debts", "setWorth", "(III)Z"⟩ ⟨"TombLane$Debts", "setWorth", "(III)Z"⟩ ∈ big := big_mem 48 (by decide +kernel) rfl
theorem kw_49 : Cond.selects "TombLane$Debts" ⟨"TombLane$Debts", "add", "(IIIII)I"⟩ ⟨"TombLane$Debts", "add", "(IIIII)I"⟩ ∈ big := big_mem 49 (by decide +kernel) rfl
theorem kw_50 : Cond.selects "TombLane$Debts" ⟨"TombLane$Debts", "setPaid", "(II)Z"⟩ ⟨"TombLane$Debts", "setPaid", "(II)Z"⟩ ∈ big := big_mem 50 (by decide +kernel) rfl
theorem kw_51 : Cond.selects "TombLane$Debts" ⟨"TombLane$Debts", "balancesOn", "(I)[I"⟩ ⟨"TombLane$Debts", "balancesOn", "(I)[I"⟩ ∈ big := big_mem 51 (by decide +kernel) rfl
theorem kw_52 : Cond.selects "TombLane$Settling" ⟨"TombLane$Settling", "payments", "([I)I"⟩ ⟨"TombLane$Settling", "payments", "([I)I"⟩ ∈ big := big_mem 52 (by decide +kernel) rfl
theorem kw_53 : Cond.selects "TombLane$Settling" ⟨"TombLane$Settling", "mostSetsAmong", "(I)I"⟩ ⟨"TombLane$Settling", "mostSetsAmong", "(I)I"⟩ ∈ big := big_mem 53 (by decide +kernel) rfl
theorem kw_54 : Cond.selects "TombLane$Settling" ⟨"TombLane$Settling", "mostSetsWithin", "(II)I"⟩ ⟨"TombLane$Settling", "mostSetsWithin", "(II)I"⟩ ∈ big := big_mem 54 (by decide +kernel) rfl
theorem kw_55 : Cond.selects "TombLane$Flakes" ⟨"TombLane$Flakes", "count", "()I"⟩ ⟨"TombLane$Flakes", "count", "()I"⟩ ∈ big := big_mem 55 (by decide +kernel) rfl
theorem kw_56 : Cond.selects "TombLane$Flakes" ⟨"TombLane$Flakes", "linesOf", "(I)I"⟩ ⟨"TombLane$Flakes", "linesOf", "(I)I"⟩ ∈ big := big_mem 56 (by decide +kernel) rfl
theorem kw_57 : Cond.selects "TombLaneModel" ⟨"TombLaneModel", "manOf", "(J)I"⟩ ⟨"TombLaneModel", "manOf", "(J)I"⟩ ∈ big := big_mem 57 (by decide +kernel) rfl
theorem kw_58 : Cond.selects "TombLaneModel" ⟨"TombLaneModel", "isMan", "(I)Z"⟩ ⟨"TombLaneModel", "isMan", "(I)Z"⟩ ∈ big := big_mem 58 (by decide +kernel) rfl
theorem kw_59 : Cond.selects "TombLaneModel" ⟨"TombLaneModel", "next", "()V"⟩ ⟨"TombLaneModel", "next", "()V"⟩ ∈ big := big_mem 59 (by decide +kernel) rfl
theorem kw_60 : Cond.selects "TombLaneModel" ⟨"TombLaneModel", "sign", "(I)I"⟩ ⟨"TombLaneModel", "sign", "(I)I"⟩ ∈ big := big_mem 60 (by decide +kernel) rfl
theorem kw_61 : Cond.selects "TombLaneModel" ⟨"TombLaneModel", "isGood", "()Z"⟩ ⟨"TombLaneModel", "isGood", "()Z"⟩ ∈ big := big_mem 61 (by decide +kernel) rfl
theorem kw_62 : Cond.selects "TombLaneModel" ⟨"TombLaneModel", "readLine", "()V"⟩ ⟨"TombLaneModel", "readLine", "()V"⟩ ∈ big := big_mem 62 (by decide +kernel) rfl
theorem kw_63 : Cond.selects "TombLaneModel" ⟨"TombLaneModel", "isWord", "(J)Z"⟩ ⟨"TombLaneModel", "isWord", "(J)Z"⟩ ∈ big := big_mem 63 (by decide +kernel) rfl
theorem kw_64 : Cond.selects "TombLaneModel" ⟨"TombLaneModel", "wrong", "()V"⟩ ⟨"TombLaneModel", "wrong", "()V"⟩ ∈ big := big_mem 64 (by decide +kernel) rfl
theorem kw_65 : Cond.selects "TombLaneModel" ⟨"TombLaneModel", "fails", "(II)V"⟩ ⟨"TombLaneModel", "fails", "(II)V"⟩ ∈ big := big_mem 65 (by decide +kernel) rfl
theorem kw_66 : Cond.selects "TombLaneModel" ⟨"TombLaneModel", "must", "(Z)V"⟩ ⟨"TombLaneModel", "must", "(Z)V"⟩ ∈ big := big_mem 66 (by decide +kernel) rfl
theorem kw_67 : Cond.selects "TombLaneModel" ⟨"TombLaneModel", "is", "(I)Z"⟩ ⟨"TombLaneModel", "is", "(I)Z"⟩ ∈ big := big_mem 67 (by decide +kernel) rfl
theorem kw_68 : Cond.selects "TombLaneModel" ⟨"TombLaneModel", "readEntry", "(I)V"⟩ ⟨"TombLaneModel", "readEntry", "(I)V"⟩ ∈ big := big_mem 68 (by decide +kernel) rfl
theorem kw_69 : Cond.selects "TombLaneModel" ⟨"TombLaneModel", "readWicks", "(I)V"⟩ ⟨"TombLaneModel", "readWicks", "(I)V"⟩ ∈ big := big_mem 69 (by decide +kernel) rfl
theorem kw_70 : Cond.selects "TombLaneModel" ⟨"TombLaneModel", "dayOf", "(III)I"⟩ ⟨"TombLaneModel", "dayOf", "(III)I"⟩ ∈ big := big_mem 70 (by decide +kernel) rfl
theorem kw_71 : Cond.selects "TombLaneModel" ⟨"TombLaneModel", "tellDay", "(III)V"⟩ ⟨"TombLaneModel", "tellDay", "(III)V"⟩ ∈ big := big_mem 71 (by decide +kernel) rfl
theorem kw_72 : Cond.selects "TombLaneModel" ⟨"TombLaneModel", "counts", "(II)Z"⟩ ⟨"TombLaneModel", "counts", "(II)Z"⟩ ∈ big := big_mem 72 (by decide +kernel) rfl
theorem kw_73 : Cond.selects "TombLaneModel" ⟨"TombLaneModel", "saysOf", "(II)I"⟩ ⟨"TombLaneModel", "saysOf", "(II)I"⟩ ∈ big := big_mem 73 (by decide +kernel) rfl
theorem kw_74 : Cond.selects "TombLaneModel" ⟨"TombLaneModel", "burn", "(II)I"⟩ ⟨"TombLaneModel", "burn", "(II)I"⟩ ∈ big := big_mem 74 (by decide +kernel) rfl
theorem kw_75 : Cond.selects "TombLaneModel" ⟨"TombLaneModel", "balanceOf", "(II)I"⟩ ⟨"TombLaneModel", "balanceOf", "(II)I"⟩ ∈ big := big_mem 75 (by decide +kernel) rfl
theorem kw_76 : Cond.initialized "TombLaneLaw" ∈ big := big_mem 76 (by decide +kernel) rfl
theorem kw_77 : Cond.initialized "TombLane" ∈ big := big_mem 77 (by decide +kernel) rfl
theorem kw_78 : Cond.initialized "TombLane$Men" ∈ big := big_mem 78 (by decide +kernel) rfl
theorem kw_79 : Cond.initialized "TombLane$Tape" ∈ big := big_mem 79 (by decide +kernel) rfl
theorem kw_80 : Cond.initialized "TombLane$FlakeReader" ∈ big := big_mem 80 (by decide +kernel) rfl
theorem kw_81 : Cond.initialized "TombLane$Line" ∈ big := big_mem 81 (by decide +kernel) rfl
theorem kw_82 : Cond.initialized "TombLane$Tokens" ∈ big := big_mem 82 (by decide +kernel) rfl
theorem kw_83 : Cond.initialized "TombLane$Flakes" ∈ big := big_mem 83 (by decide +kernel) rfl
theorem kw_84 : Cond.initialized "java/util/AbstractCollection" ∈ big := big_mem 84 (by decide +kernel) rfl
theorem kw_85 : Cond.initialized "java/util/AbstractList" ∈ big := big_mem 85 (by decide +kernel) rfl
theorem kw_86 : Cond.initialized "java/util/ArrayList" ∈ big := big_mem 86 (by decide +kernel) rfl
theorem kw_87 : Cond.initialized "TombLane$DayBook" ∈ big := big_mem 87 (by decide +kernel) rfl
theorem kw_88 : Cond.initialized "TombLane$Rations" ∈ big := big_mem 88 (by decide +kernel) rfl
theorem kw_89 : Cond.initialized "TombLane$Debts" ∈ big := big_mem 89 (by decide +kernel) rfl
theorem kw_90 : Cond.initialized "TombLane$Settling" ∈ big := big_mem 90 (by decide +kernel) rfl
theorem kw_91 : Cond.initialized "TombLaneModel" ∈ big := big_mem 91 (by decide +kernel) rfl
theorem kw_92 : Cond.initialized "TombLane$Flake" ∈ big := big_mem 92 (by decide +kernel) rfl
theorem kw_93 : Cond.initialized "jdk/internal/util/ArraysSupport" ∈ big := big_mem 93 (by decide +kernel) rfl
theorem kw_94 : Cond.initialized "java/lang/Math" ∈ big := big_mem 94 (by decide +kernel) rfl
theorem kw_95 : Cond.initialized "java/util/Arrays" ∈ big := big_mem 95 (by decide +kernel) rfl
theorem kw_96 : Cond.initialized "java/lang/System" ∈ big := big_mem 96 (by decide +kernel) rfl
theorem kw_97 : Cond.initialized "java/util/Objects" ∈ big := big_mem 97 (by decide +kernel) rfl
theorem kw_98 : Cond.initialized "jdk/internal/util/Preconditions" ∈ big := big_mem 98 (by decide +kernel) rfl
theorem kw_99 : Cond.classLink "TombLaneLaw" 7 "TombLane" ∈ big := big_mem 99 (by decide +kernel) rfl
theorem kw_100 : Cond.instantiable "TombLane" 9 ∈ big := big_mem 100 (by decide +kernel) rfl
theorem kw_101 : Cond.methodLink "TombLaneLaw" 9 ⟨"TombLane", "<init>", "()V"⟩ ∈ big := big_mem 101 (by decide +kernel) rfl
theorem kw_102 : Cond.instanceMethod ⟨"TombLane", "<init>", "()V"⟩ ∈ big := big_mem 102 (by decide +kernel) rfl
theorem kw_103 : Cond.code ⟨"TombLane", "<init>", "()V"⟩ prog_1_method_1_code 1 (none : Option FieldType) ∈ big := big_mem 103 (by decide +kernel) rfl
theorem kw_104 : Cond.methodLink "TombLane" 1 ⟨"java/lang/Object", "<init>", "()V"⟩ ∈ big := big_mem 104 (by decide +kernel) rfl
theorem kw_105 : Cond.instanceMethod ⟨"java/lang/Object", "<init>", "()V"⟩ ∈ big := big_mem 105 (by decide +kernel) rfl
theorem kw_106 : Cond.code ⟨"java/lang/Object", "<init>", "()V"⟩ object_method_1_code 1 (none : Option FieldType) ∈ big := big_mem 106 (by decide +kernel) rfl
theorem kw_107 : Cond.classLink "TombLane" 7 "TombLane$Men" ∈ big := big_mem 107 (by decide +kernel) rfl
theorem kw_108 : Cond.instantiable "TombLane$Men" 4 ∈ big := big_mem 108 (by decide +kernel) rfl
theorem kw_109 : Cond.methodLinkNest "TombLane" 9 ⟨"TombLane$Men", "<init>", "()V"⟩ "TombLane" ∈ nn := nn_mem 109 (by decide +kernel) rfl
theorem kw_110 : Cond.instanceMethod ⟨"TombLane$Men", "<init>", "()V"⟩ ∈ big := big_mem 110 (by decide +kernel) rfl
theorem kw_111 : Cond.code ⟨"TombLane$Men", "<init>", "()V"⟩ prog_8_method_1_code 1 (none : Option FieldType) ∈ big := big_mem 111 (by decide +kernel) rfl
theorem kw_112 : Cond.methodLink "TombLane$Men" 3 ⟨"java/lang/Object", "<init>", "()V"⟩ ∈ big := big_mem 112 (by decide +kernel) rfl
theorem kw_113 : Cond.fieldLink "TombLane$Men" 9 "TombLane$Men" "name" "[J" ∈ big := big_mem 113 (by decide +kernel) rfl
theorem kw_114 : Cond.fieldLinkNest "TombLane" 174 "TombLane$Men" "name" "[J" "TombLane" ∈ nn := nn_mem 114 (by decide +kernel) rfl
theorem kw_115 : Cond.fieldLink "TombLane$Men" 15 "TombLane$Men" "side" "[I" ∈ big := big_mem 115 (by decide +kernel) rfl
theorem kw_116 : Cond.fieldLinkNest "TombLane$DayBook" 34 "TombLane$Men" "side" "[I" "TombLane" ∈ nn := nn_mem 116 (by decide +kernel) rfl
theorem kw_117 : Cond.fieldLinkNest "TombLane" 167 "TombLane$Men" "side" "[I" "TombLane" ∈ nn := nn_mem 117 (by decide +kernel) rfl
theorem kw_118 : Cond.fieldLink "TombLane$Men" 19 "TombLane$Men" "rank" "[I" ∈ big := big_mem 118 (by decide +kernel) rfl
theorem kw_119 : Cond.fieldLinkNest "TombLane$Rations" 32 "TombLane$Men" "rank" "[I" "TombLane" ∈ nn := nn_mem 119 (by decide +kernel) rfl
theorem kw_120 : Cond.fieldLinkNest "TombLane" 171 "TombLane$Men" "rank" "[I" "TombLane" ∈ nn := nn_mem 120 (by decide +kernel) rfl
theorem kw_121 : Cond.fieldLink "TombLane$Men" 22 "TombLane$Men" "count" "I" ∈ big := big_mem 121 (by decide +kernel) rfl
theorem kw_122 : Cond.fieldLinkNest "TombLane$DayBook" 89 "TombLane$Men" "count" "I" "TombLane" ∈ nn := nn_mem 122 (by decide +kernel) rfl
theorem kw_123 : Cond.fieldLinkNest "TombLane" 182 "TombLane$Men" "count" "I" "TombLane" ∈ nn := nn_mem 123 (by decide +kernel) rfl
theorem kw_133 : Cond.arrayClass FieldType.long ∈ big := big_mem 133 (by decide +kernel) rfl
theorem kw_134 : Cond.arrayClass FieldType.int ∈ big := big_mem 134 (by decide +kernel) rfl
theorem kw_135 : Cond.classLink "TombLane" 16 "TombLane$Tape" ∈ big := big_mem 135 (by decide +kernel) rfl
theorem kw_136 : Cond.instantiable "TombLane$Tape" 2 ∈ big := big_mem 136 (by decide +kernel) rfl
theorem kw_137 : Cond.methodLinkNest "TombLane" 18 ⟨"TombLane$Tape", "<init>", "()V"⟩ "TombLane" ∈ nn := nn_mem 137 (by decide +kernel) rfl
theorem kw_138 : Cond.instanceMethod ⟨"TombLane$Tape", "<init>", "()V"⟩ ∈ big := big_mem 138 (by decide +kernel) rfl
theorem kw_139 : Cond.code ⟨"TombLane$Tape", "<init>", "()V"⟩ prog_11_method_1_code 1 (none : Option FieldType) ∈ big := big_mem 139 (by decide +kernel) rfl
theorem kw_140 : Cond.methodLink "TombLane$Tape" 3 ⟨"java/lang/Object", "<init>", "()V"⟩ ∈ big := big_mem 140 (by decide +kernel) rfl
theorem kw_141 : Cond.fieldLink "TombLane$Tape" 9 "TombLane$Tape" "bytes" "[I" ∈ big := big_mem 141 (by decide +kernel) rfl
theorem kw_142 : Cond.fieldLink "TombLane$Tape" 15 "TombLane$Tape" "length" "I" ∈ big := big_mem 142 (by decide +kernel) rfl
theorem kw_143 : Cond.fieldLinkNest "TombLane" 91 "TombLane$Tape" "length" "I" "TombLane" ∈ nn := nn_mem 143 (by decide +kernel) rfl
theorem kw_144 : Cond.fieldLinkNest "TombLane$Tokens" 55 "TombLane$Tape" "length" "I" "TombLane" ∈ nn := nn_mem 144 (by decide +kernel) rfl
theorem kw_150 : Cond.classLink "TombLane" 23 "TombLane$FlakeReader" ∈ big := big_mem 150 (by decide +kernel) rfl
theorem kw_151 : Cond.instantiable "TombLane$FlakeReader" 8 ∈ big := big_mem 151 (by decide +kernel) rfl
theorem kw_152 : Cond.methodLinkNest "TombLane" 25 ⟨"TombLane$FlakeReader", "<init>", "(LTombLane$Tape;LTombLane$Men;)V"⟩ "TombLane" ∈ nn := nn_mem 152 (by decide +kernel) rfl
theorem kw_153 : Cond.instanceMethod ⟨"TombLane$FlakeReader", "<init>", "(LTombLane$Tape;LTombLane$Men;)V"⟩ ∈ big := big_mem 153 (by decide +kernel) rfl
theorem kw_154 : Cond.code ⟨"TombLane$FlakeReader", "<init>", "(LTombLane$Tape;LTombLane$Men;)V"⟩ prog_5_method_1_code 3 (none : Option FieldType) ∈ big := big_mem 154 (by decide +kernel) rfl
theorem kw_155 : Cond.methodLink "TombLane$FlakeReader" 3 ⟨"java/lang/Object", "<init>", "()V"⟩ ∈ big := big_mem 155 (by decide +kernel) rfl
theorem kw_156 : Cond.classLink "TombLane$FlakeReader" 24 "TombLane$Line" ∈ big := big_mem 156 (by decide +kernel) rfl
theorem kw_157 : Cond.instantiable "TombLane$Line" 5 ∈ big := big_mem 157 (by decide +kernel) rfl
theorem kw_158 : Cond.methodLinkNest "TombLane$FlakeReader" 26 ⟨"TombLane$Line", "<init>", "(II)V"⟩ "TombLane" ∈ nn := nn_mem 158 (by decide +kernel) rfl
theorem kw_159 : Cond.instanceMethod ⟨"TombLane$Line", "<init>", "(II)V"⟩ ∈ big := big_mem 159 (by decide +kernel) rfl
theorem kw_160 : Cond.code ⟨"TombLane$Line", "<init>", "(II)V"⟩ prog_7_method_1_code 3 (none : Option FieldType) ∈ big := big_mem 160 (by decide +kernel) rfl
theorem kw_161 : Cond.methodLink "TombLane$Line" 3 ⟨"java/lang/Object", "<init>", "()V"⟩ ∈ big := big_mem 161 (by decide +kernel) rfl
theorem kw_162 : Cond.fieldLink "TombLane$Line" 23 "TombLane$Line" "day" "I" ∈ big := big_mem 162 (by decide +kernel) rfl
theorem kw_163 : Cond.fieldLink "TombLane$Line" 26 "TombLane$Line" "side" "I" ∈ big := big_mem 163 (by decide +kernel) rfl
theorem kw_164 : Cond.fieldLinkNest "TombLane$DayBook" 92 "TombLane$Line" "side" "I" "TombLane" ∈ nn := nn_mem 164 (by decide +kernel) rfl
theorem kw_165 : Cond.fieldLinkNest "TombLane$FlakeReader" 137 "TombLane$Line" "side" "I" "TombLane" ∈ nn := nn_mem 165 (by decide +kernel) rfl
theorem kw_166 : Cond.fieldLink "TombLane$Line" 9 "TombLane$Line" "entries" "[I" ∈ big := big_mem 166 (by decide +kernel) rfl
theorem kw_167 : Cond.fieldLinkNest "TombLane$FlakeReader" 150 "TombLane$Line" "entries" "[I" "TombLane" ∈ nn := nn_mem 167 (by decide +kernel) rfl
theorem kw_168 : Cond.fieldLink "TombLane$Line" 15 "TombLane$Line" "gap" "Z" ∈ big := big_mem 168 (by decide +kernel) rfl
theorem kw_169 : Cond.fieldLinkNest "TombLane$FlakeReader" 125 "TombLane$Line" "gap" "Z" "TombLane" ∈ nn := nn_mem 169 (by decide +kernel) rfl
theorem kw_170 : Cond.fieldLink "TombLane$Line" 19 "TombLane$Line" "wicksTold" "I" ∈ big := big_mem 170 (by decide +kernel) rfl
theorem kw_171 : Cond.fieldLinkNest "TombLane$DayBook" 101 "TombLane$Line" "wicksTold" "I" "TombLane" ∈ nn := nn_mem 171 (by decide +kernel) rfl
theorem kw_172 : Cond.fieldLinkNest "TombLane$FlakeReader" 157 "TombLane$Line" "wicksTold" "I" "TombLane" ∈ nn := nn_mem 172 (by decide +kernel) rfl
theorem kw_184 : Cond.classLink "TombLane$FlakeReader" 36 "TombLane$Tokens" ∈ big := big_mem 184 (by decide +kernel) rfl
theorem kw_185 : Cond.instantiable "TombLane$Tokens" 5 ∈ big := big_mem 185 (by decide +kernel) rfl
theorem kw_186 : Cond.methodLinkNest "TombLane$FlakeReader" 38 ⟨"TombLane$Tokens", "<init>", "(LTombLane$Tape;)V"⟩ "TombLane" ∈ nn := nn_mem 186 (by decide +kernel) rfl
theorem kw_187 : Cond.instanceMethod ⟨"TombLane$Tokens", "<init>", "(LTombLane$Tape;)V"⟩ ∈ big := big_mem 187 (by decide +kernel) rfl
theorem kw_188 : Cond.code ⟨"TombLane$Tokens", "<init>", "(LTombLane$Tape;)V"⟩ prog_12_method_1_code 2 (none : Option FieldType) ∈ big := big_mem 188 (by decide +kernel) rfl
theorem kw_189 : Cond.methodLink "TombLane$Tokens" 3 ⟨"java/lang/Object", "<init>", "()V"⟩ ∈ big := big_mem 189 (by decide +kernel) rfl
theorem kw_190 : Cond.fieldLink "TombLane$Tokens" 25 "TombLane$Tokens" "tape" "LTombLane$Tape;" ∈ big := big_mem 190 (by decide +kernel) rfl
theorem kw_191 : Cond.fieldLink "TombLane$Tokens" 9 "TombLane$Tokens" "next" "I" ∈ big := big_mem 191 (by decide +kernel) rfl
theorem kw_192 : Cond.fieldLink "TombLane$Tokens" 15 "TombLane$Tokens" "kind" "I" ∈ big := big_mem 192 (by decide +kernel) rfl
theorem kw_193 : Cond.fieldLinkNest "TombLane$FlakeReader" 55 "TombLane$Tokens" "kind" "I" "TombLane" ∈ nn := nn_mem 193 (by decide +kernel) rfl
theorem kw_194 : Cond.fieldLink "TombLane$Tokens" 18 "TombLane$Tokens" "place" "I" ∈ big := big_mem 194 (by decide +kernel) rfl
theorem kw_195 : Cond.fieldLinkNest "TombLane$FlakeReader" 62 "TombLane$Tokens" "place" "I" "TombLane" ∈ nn := nn_mem 195 (by decide +kernel) rfl
theorem kw_196 : Cond.fieldLink "TombLane$Tokens" 21 "TombLane$Tokens" "value" "J" ∈ big := big_mem 196 (by decide +kernel) rfl
theorem kw_197 : Cond.fieldLinkNest "TombLane$FlakeReader" 107 "TombLane$Tokens" "value" "J" "TombLane" ∈ nn := nn_mem 197 (by decide +kernel) rfl
theorem kw_209 : Cond.fieldLink "TombLane$FlakeReader" 41 "TombLane$FlakeReader" "tokens" "LTombLane$Tokens;" ∈ big := big_mem 209 (by decide +kernel) rfl
theorem kw_210 : Cond.fieldLink "TombLane$FlakeReader" 45 "TombLane$FlakeReader" "men" "LTombLane$Men;" ∈ big := big_mem 210 (by decide +kernel) rfl
theorem kw_211 : Cond.fieldLink "TombLane$FlakeReader" 9 "TombLane$FlakeReader" "fault" "I" ∈ big := big_mem 211 (by decide +kernel) rfl
theorem kw_212 : Cond.fieldLinkNest "TombLane" 113 "TombLane$FlakeReader" "fault" "I" "TombLane" ∈ nn := nn_mem 212 (by decide +kernel) rfl
theorem kw_213 : Cond.fieldLink "TombLane$FlakeReader" 15 "TombLane$FlakeReader" "place" "I" ∈ big := big_mem 213 (by decide +kernel) rfl
theorem kw_214 : Cond.fieldLinkNest "TombLane" 116 "TombLane$FlakeReader" "place" "I" "TombLane" ∈ nn := nn_mem 214 (by decide +kernel) rfl
theorem kw_215 : Cond.fieldLink "TombLane$FlakeReader" 18 "TombLane$FlakeReader" "expected" "I" ∈ big := big_mem 215 (by decide +kernel) rfl
theorem kw_216 : Cond.fieldLink "TombLane$FlakeReader" 21 "TombLane$FlakeReader" "lineDay" "I" ∈ big := big_mem 216 (by decide +kernel) rfl
theorem kw_217 : Cond.fieldLink "TombLane$FlakeReader" 29 "TombLane$FlakeReader" "line" "LTombLane$Line;" ∈ big := big_mem 217 (by decide +kernel) rfl
theorem kw_218 : Cond.fieldLink "TombLane$FlakeReader" 33 "TombLane$FlakeReader" "named" "I" ∈ big := big_mem 218 (by decide +kernel) rfl
theorem kw_236 : Cond.classLink "TombLane" 32 "TombLane$Flakes" ∈ big := big_mem 236 (by decide +kernel) rfl
theorem kw_237 : Cond.instantiable "TombLane$Flakes" 1 ∈ big := big_mem 237 (by decide +kernel) rfl
theorem kw_238 : Cond.methodLinkNest "TombLane" 34 ⟨"TombLane$Flakes", "<init>", "()V"⟩ "TombLane" ∈ nn := nn_mem 238 (by decide +kernel) rfl
theorem kw_239 : Cond.instanceMethod ⟨"TombLane$Flakes", "<init>", "()V"⟩ ∈ big := big_mem 239 (by decide +kernel) rfl
theorem kw_240 : Cond.code ⟨"TombLane$Flakes", "<init>", "()V"⟩ prog_6_method_1_code 1 (none : Option FieldType) ∈ big := big_mem 240 (by decide +kernel) rfl
theorem kw_241 : Cond.methodLink "TombLane$Flakes" 3 ⟨"java/lang/Object", "<init>", "()V"⟩ ∈ big := big_mem 241 (by decide +kernel) rfl
theorem kw_242 : Cond.classLink "TombLane$Flakes" 9 "java/util/ArrayList" ∈ big := big_mem 242 (by decide +kernel) rfl
theorem kw_243 : Cond.instantiable "java/util/ArrayList" 3 ∈ big := big_mem 243 (by decide +kernel) rfl
theorem kw_244 : Cond.methodLink "TombLane$Flakes" 11 ⟨"java/util/ArrayList", "<init>", "()V"⟩ ∈ big := big_mem 244 (by decide +kernel) rfl
theorem kw_245 : Cond.instanceMethod ⟨"java/util/ArrayList", "<init>", "()V"⟩ ∈ big := big_mem 245 (by decide +kernel) rfl
theorem kw_246 : Cond.code ⟨"java/util/ArrayList", "<init>", "()V"⟩ prog_22_method_2_code 1 (none : Option FieldType) ∈ big := big_mem 246 (by decide +kernel) rfl
theorem kw_247 : Cond.methodLink "java/util/ArrayList" 1 ⟨"java/util/AbstractList", "<init>", "()V"⟩ ∈ big := big_mem 247 (by decide +kernel) rfl
theorem kw_248 : Cond.instanceMethod ⟨"java/util/AbstractList", "<init>", "()V"⟩ ∈ big := big_mem 248 (by decide +kernel) rfl
theorem kw_249 : Cond.code ⟨"java/util/AbstractList", "<init>", "()V"⟩ prog_21_method_1_code 1 (none : Option FieldType) ∈ big := big_mem 249 (by decide +kernel) rfl
theorem kw_250 : Cond.methodLink "java/util/AbstractList" 1 ⟨"java/util/AbstractCollection", "<init>", "()V"⟩ ∈ big := big_mem 250 (by decide +kernel) rfl
theorem kw_251 : Cond.instanceMethod ⟨"java/util/AbstractCollection", "<init>", "()V"⟩ ∈ big := big_mem 251 (by decide +kernel) rfl
theorem kw_252 : Cond.code ⟨"java/util/AbstractCollection", "<init>", "()V"⟩ prog_20_method_1_code 1 (none : Option FieldType) ∈ big := big_mem 252 (by decide +kernel) rfl
theorem kw_253 : Cond.methodLink "java/util/AbstractCollection" 1 ⟨"java/lang/Object", "<init>", "()V"⟩ ∈ big := big_mem 253 (by decide +kernel) rfl
theorem kw_254 : Cond.fieldLink "java/util/ArrayList" 39 "java/util/ArrayList" "DEFAULTCAPACITY_EMPTY_ELEMENTDATA" "[Ljava/lang/Object;" ∈ big := big_mem 254 (by decide +kernel) rfl
theorem kw_255 : Cond.laysStatic "java/util/ArrayList" "DEFAULTCAPACITY_EMPTY_ELEMENTDATA" "[Ljava/lang/Object;" ∈ lw_tbl := List.mem_of_getElem? (i := 255) (by decide +kernel)
theorem kw_256 : Cond.fieldLink "java/util/ArrayList" 9 "java/util/ArrayList" "elementData" "[Ljava/lang/Object;" ∈ big := big_mem 256 (by decide +kernel) rfl
theorem kw_257 : Cond.fieldLink "java/util/ArrayList" 48 "java/util/ArrayList" "size" "I" ∈ big := big_mem 257 (by decide +kernel) rfl
theorem kw_258 : Cond.fieldLink "java/util/AbstractList" 7 "java/util/AbstractList" "modCount" "I" ∈ big := big_mem 258 (by decide +kernel) rfl
theorem kw_259 : Cond.fieldLink "java/util/ArrayList" 63 "java/util/ArrayList" "modCount" "I" ∈ big := big_mem 259 (by decide +kernel) rfl
theorem kw_260 : Cond.sameField "java/util/ArrayList" "java/util/AbstractList" "modCount" "I" ∈ big := big_mem 260 (by decide +kernel) rfl
theorem kw_268 : Cond.fieldLink "TombLane$Flakes" 12 "TombLane$Flakes" "kept" "Ljava/util/ArrayList;" ∈ big := big_mem 268 (by decide +kernel) rfl
theorem kw_269 : Cond.fieldLinkNest "TombLane$DayBook" 46 "TombLane$Flakes" "kept" "Ljava/util/ArrayList;" "TombLane" ∈ nn := nn_mem 269 (by decide +kernel) rfl
theorem kw_273 : Cond.classLink "TombLane" 39 "TombLane$DayBook" ∈ big := big_mem 273 (by decide +kernel) rfl
theorem kw_274 : Cond.instantiable "TombLane$DayBook" 6 ∈ big := big_mem 274 (by decide +kernel) rfl
theorem kw_275 : Cond.methodLinkNest "TombLane" 41 ⟨"TombLane$DayBook", "<init>", "(LTombLane$Men;LTombLane$Flakes;)V"⟩ "TombLane" ∈ nn := nn_mem 275 (by decide +kernel) rfl
theorem kw_276 : Cond.instanceMethod ⟨"TombLane$DayBook", "<init>", "(LTombLane$Men;LTombLane$Flakes;)V"⟩ ∈ big := big_mem 276 (by decide +kernel) rfl
theorem kw_277 : Cond.code ⟨"TombLane$DayBook", "<init>", "(LTombLane$Men;LTombLane$Flakes;)V"⟩ prog_2_method_1_code 3 (none : Option FieldType) ∈ big := big_mem 277 (by decide +kernel) rfl
theorem kw_278 : Cond.methodLink "TombLane$DayBook" 3 ⟨"java/lang/Object", "<init>", "()V"⟩ ∈ big := big_mem 278 (by decide +kernel) rfl
theorem kw_279 : Cond.fieldLink "TombLane$DayBook" 26 "TombLane$DayBook" "men" "LTombLane$Men;" ∈ big := big_mem 279 (by decide +kernel) rfl
theorem kw_280 : Cond.fieldLink "TombLane$DayBook" 30 "TombLane$DayBook" "flakes" "LTombLane$Flakes;" ∈ big := big_mem 280 (by decide +kernel) rfl
theorem kw_281 : Cond.fieldLink "TombLane$DayBook" 9 "TombLane$DayBook" "states" "[I" ∈ big := big_mem 281 (by decide +kernel) rfl
theorem kw_282 : Cond.fieldLink "TombLane$DayBook" 15 "TombLane$DayBook" "daysOf" "[I" ∈ big := big_mem 282 (by decide +kernel) rfl
theorem kw_283 : Cond.fieldLink "TombLane$DayBook" 18 "TombLane$DayBook" "wicksTold" "I" ∈ big := big_mem 283 (by decide +kernel) rfl
theorem kw_284 : Cond.fieldLink "TombLane$DayBook" 22 "TombLane$DayBook" "wicksUnlike" "Z" ∈ big := big_mem 284 (by decide +kernel) rfl
theorem kw_298 : Cond.classLink "TombLane" 48 "TombLane$Rations" ∈ big := big_mem 298 (by decide +kernel) rfl
theorem kw_299 : Cond.instantiable "TombLane$Rations" 6 ∈ big := big_mem 299 (by decide +kernel) rfl
theorem kw_300 : Cond.methodLinkNest "TombLane" 50 ⟨"TombLane$Rations", "<init>", "(LTombLane$Men;)V"⟩ "TombLane" ∈ nn := nn_mem 300 (by decide +kernel) rfl
theorem kw_301 : Cond.instanceMethod ⟨"TombLane$Rations", "<init>", "(LTombLane$Men;)V"⟩ ∈ big := big_mem 301 (by decide +kernel) rfl
theorem kw_302 : Cond.code ⟨"TombLane$Rations", "<init>", "(LTombLane$Men;)V"⟩ prog_9_method_1_code 2 (none : Option FieldType) ∈ big := big_mem 302 (by decide +kernel) rfl
theorem kw_303 : Cond.methodLink "TombLane$Rations" 3 ⟨"java/lang/Object", "<init>", "()V"⟩ ∈ big := big_mem 303 (by decide +kernel) rfl
theorem kw_304 : Cond.fieldLink "TombLane$Rations" 28 "TombLane$Rations" "men" "LTombLane$Men;" ∈ big := big_mem 304 (by decide +kernel) rfl
theorem kw_305 : Cond.fieldLink "TombLane$Rations" 9 "TombLane$Rations" "sacksByRank" "[I" ∈ big := big_mem 305 (by decide +kernel) rfl
theorem kw_306 : Cond.fieldLink "TombLane$Rations" 15 "TombLane$Rations" "to" "[I" ∈ big := big_mem 306 (by decide +kernel) rfl
theorem kw_307 : Cond.fieldLink "TombLane$Rations" 18 "TombLane$Rations" "on" "[I" ∈ big := big_mem 307 (by decide +kernel) rfl
theorem kw_308 : Cond.fieldLink "TombLane$Rations" 21 "TombLane$Rations" "sacks" "[I" ∈ big := big_mem 308 (by decide +kernel) rfl
theorem kw_309 : Cond.fieldLink "TombLane$Rations" 24 "TombLane$Rations" "count" "I" ∈ big := big_mem 309 (by decide +kernel) rfl
theorem kw_310 : Cond.fieldLinkNest "TombLane" 188 "TombLane$Rations" "count" "I" "TombLane" ∈ nn := nn_mem 310 (by decide +kernel) rfl
theorem kw_324 : Cond.classLink "TombLane" 57 "TombLane$Debts" ∈ big := big_mem 324 (by decide +kernel) rfl
theorem kw_325 : Cond.instantiable "TombLane$Debts" 9 ∈ big := big_mem 325 (by decide +kernel) rfl
theorem kw_326 : Cond.methodLinkNest "TombLane" 59 ⟨"TombLane$Debts", "<init>", "()V"⟩ "TombLane" ∈ nn := nn_mem 326 (by decide +kernel) rfl
theorem kw_327 : Cond.instanceMethod ⟨"TombLane$Debts", "<init>", "()V"⟩ ∈ big := big_mem 327 (by decide +kernel) rfl
theorem kw_328 : Cond.code ⟨"TombLane$Debts", "<init>", "()V"⟩ prog_3_method_1_code 2 (none : Option FieldType) ∈ big := big_mem 328 (by decide +kernel) rfl
theorem kw_329 : Cond.methodLink "TombLane$Debts" 3 ⟨"java/lang/Object", "<init>", "()V"⟩ ∈ big := big_mem 329 (by decide +kernel) rfl
theorem kw_330 : Cond.fieldLink "TombLane$Debts" 9 "TombLane$Debts" "by" "[I" ∈ big := big_mem 330 (by decide +kernel) rfl
theorem kw_331 : Cond.fieldLink "TombLane$Debts" 15 "TombLane$Debts" "to" "[I" ∈ big := big_mem 331 (by decide +kernel) rfl
theorem kw_332 : Cond.fieldLink "TombLane$Debts" 18 "TombLane$Debts" "good" "[I" ∈ big := big_mem 332 (by decide +kernel) rfl
theorem kw_333 : Cond.fieldLink "TombLane$Debts" 21 "TombLane$Debts" "many" "[I" ∈ big := big_mem 333 (by decide +kernel) rfl
theorem kw_334 : Cond.fieldLink "TombLane$Debts" 24 "TombLane$Debts" "from" "[I" ∈ big := big_mem 334 (by decide +kernel) rfl
theorem kw_335 : Cond.fieldLink "TombLane$Debts" 27 "TombLane$Debts" "paid" "[I" ∈ big := big_mem 335 (by decide +kernel) rfl
theorem kw_336 : Cond.fieldLink "TombLane$Debts" 30 "TombLane$Debts" "count" "I" ∈ big := big_mem 336 (by decide +kernel) rfl
theorem kw_337 : Cond.fieldLinkNest "TombLane" 189 "TombLane$Debts" "count" "I" "TombLane" ∈ nn := nn_mem 337 (by decide +kernel) rfl
theorem kw_338 : Cond.fieldLink "TombLane$Debts" 34 "TombLane$Debts" "worths" "[I" ∈ big := big_mem 338 (by decide +kernel) rfl
theorem kw_339 : Cond.fieldLink "TombLane$Debts" 37 "TombLane$Debts" "balances" "[I" ∈ big := big_mem 339 (by decide +kernel) rfl
theorem kw_359 : Cond.classLink "TombLane" 64 "TombLane$Settling" ∈ big := big_mem 359 (by decide +kernel) rfl
theorem kw_360 : Cond.instantiable "TombLane$Settling" 2 ∈ big := big_mem 360 (by decide +kernel) rfl
theorem kw_361 : Cond.methodLinkNest "TombLane" 66 ⟨"TombLane$Settling", "<init>", "()V"⟩ "TombLane" ∈ nn := nn_mem 361 (by decide +kernel) rfl
theorem kw_362 : Cond.instanceMethod ⟨"TombLane$Settling", "<init>", "()V"⟩ ∈ big := big_mem 362 (by decide +kernel) rfl
theorem kw_363 : Cond.code ⟨"TombLane$Settling", "<init>", "()V"⟩ prog_10_method_1_code 1 (none : Option FieldType) ∈ big := big_mem 363 (by decide +kernel) rfl
theorem kw_364 : Cond.methodLink "TombLane$Settling" 3 ⟨"java/lang/Object", "<init>", "()V"⟩ ∈ big := big_mem 364 (by decide +kernel) rfl
theorem kw_365 : Cond.fieldLink "TombLane$Settling" 9 "TombLane$Settling" "sums" "[I" ∈ big := big_mem 365 (by decide +kernel) rfl
theorem kw_366 : Cond.fieldLink "TombLane$Settling" 15 "TombLane$Settling" "mostSets" "[I" ∈ big := big_mem 366 (by decide +kernel) rfl
theorem kw_372 : Cond.fieldLink "TombLane" 10 "TombLane" "men" "LTombLane$Men;" ∈ big := big_mem 372 (by decide +kernel) rfl
theorem kw_373 : Cond.fieldLink "TombLane" 19 "TombLane" "tape" "LTombLane$Tape;" ∈ big := big_mem 373 (by decide +kernel) rfl
theorem kw_374 : Cond.fieldLink "TombLane" 28 "TombLane" "reader" "LTombLane$FlakeReader;" ∈ big := big_mem 374 (by decide +kernel) rfl
theorem kw_375 : Cond.fieldLink "TombLane" 35 "TombLane" "flakes" "LTombLane$Flakes;" ∈ big := big_mem 375 (by decide +kernel) rfl
theorem kw_376 : Cond.fieldLink "TombLane" 44 "TombLane" "book" "LTombLane$DayBook;" ∈ big := big_mem 376 (by decide +kernel) rfl
theorem kw_377 : Cond.fieldLink "TombLane" 53 "TombLane" "rations" "LTombLane$Rations;" ∈ big := big_mem 377 (by decide +kernel) rfl
theorem kw_378 : Cond.fieldLink "TombLane" 60 "TombLane" "debts" "LTombLane$Debts;" ∈ big := big_mem 378 (by decide +kernel) rfl
theorem kw_379 : Cond.fieldLink "TombLane" 67 "TombLane" "settling" "LTombLane$Settling;" ∈ big := big_mem 379 (by decide +kernel) rfl
theorem kw_380 : Cond.fieldLink "TombLane" 71 "TombLane" "date" "I" ∈ big := big_mem 380 (by decide +kernel) rfl
theorem kw_400 : Cond.methodLink "TombLaneLaw" 15 ⟨"TombLane", "man", "(JII)I"⟩ ∈ big := big_mem 400 (by decide +kernel) rfl
theorem kw_401 : Cond.instanceMethod ⟨"TombLane", "man", "(JII)I"⟩ ∈ big := big_mem 401 (by decide +kernel) rfl
theorem kw_402 : Cond.selects "TombLane" ⟨"TombLane", "man", "(JII)I"⟩ ⟨"TombLane", "man", "(JII)I"⟩ ∈ big := big_mem 402 (by decide +kernel) rfl
theorem kw_403 : Cond.code ⟨"TombLane", "man", "(JII)I"⟩ prog_1_method_2_code 5 (some FieldType.int) ∈ big := big_mem 403 (by decide +kernel) rfl
theorem kw_404 : Cond.methodLink "TombLane" 75 ⟨"TombLane", "isBelow", "(II)Z"⟩ ∈ big := big_mem 404 (by decide +kernel) rfl
theorem kw_405 : Cond.static ⟨"TombLane", "isBelow", "(II)Z"⟩ ∈ big := big_mem 405 (by decide +kernel) rfl
theorem kw_406 : Cond.code ⟨"TombLane", "isBelow", "(II)Z"⟩ prog_1_method_23_code 2 (some FieldType.boolean) ∈ big := big_mem 406 (by decide +kernel) rfl
theorem kw_407 : Cond.methodLinkNest "TombLane" 79 ⟨"TombLane$Men", "add", "(JII)I"⟩ "TombLane" ∈ nn := nn_mem 407 (by decide +kernel) rfl
theorem kw_409 : Cond.instanceMethod ⟨"TombLane$Men", "add", "(JII)I"⟩ ∈ big := big_mem 409 (by decide +kernel) rfl
theorem kw_410 : Cond.code ⟨"TombLane$Men", "add", "(JII)I"⟩ prog_8_method_3_code 6 (some FieldType.int) ∈ big := big_mem 410 (by decide +kernel) rfl
theorem kw_411 : Cond.methodLinkNest "TombLane$Men" 30 ⟨"TombLane", "lettersOf", "(J)I"⟩ "TombLane" ∈ nn := nn_mem 411 (by decide +kernel) rfl
theorem kw_412 : Cond.static ⟨"TombLane", "lettersOf", "(J)I"⟩ ∈ big := big_mem 412 (by decide +kernel) rfl
theorem kw_413 : Cond.code ⟨"TombLane", "lettersOf", "(J)I"⟩ prog_1_method_26_code 5 (some FieldType.int) ∈ big := big_mem 413 (by decide +kernel) rfl
theorem kw_414 : Cond.methodLink "TombLane" 194 ⟨"TombLane", "isLetter", "(I)Z"⟩ ∈ big := big_mem 414 (by decide +kernel) rfl
theorem kw_415 : Cond.static ⟨"TombLane", "isLetter", "(I)Z"⟩ ∈ big := big_mem 415 (by decide +kernel) rfl
theorem kw_416 : Cond.code ⟨"TombLane", "isLetter", "(I)Z"⟩ prog_1_method_24_code 1 (some FieldType.boolean) ∈ big := big_mem 416 (by decide +kernel) rfl
theorem kw_417 : Cond.methodLinkNest "TombLane$Men" 34 ⟨"TombLane", "isFree", "(J)Z"⟩ "TombLane" ∈ nn := nn_mem 417 (by decide +kernel) rfl
theorem kw_418 : Cond.static ⟨"TombLane", "isFree", "(J)Z"⟩ ∈ big := big_mem 418 (by decide +kernel) rfl
theorem kw_419 : Cond.code ⟨"TombLane", "isFree", "(J)Z"⟩ prog_1_method_29_code 2 (some FieldType.boolean) ∈ big := big_mem 419 (by decide +kernel) rfl
theorem kw_420 : Cond.constantLong "TombLane" 211 (6578553 : Int64) ∈ big := big_mem 420 (by decide +kernel) rfl
theorem kw_421 : Cond.constantLong "TombLane" 213 (512869231475 : Int64) ∈ big := big_mem 421 (by decide +kernel) rfl
theorem kw_422 : Cond.methodLink "TombLane" 215 ⟨"TombLane", "sideOf", "(J)I"⟩ ∈ big := big_mem 422 (by decide +kernel) rfl
theorem kw_423 : Cond.static ⟨"TombLane", "sideOf", "(J)I"⟩ ∈ big := big_mem 423 (by decide +kernel) rfl
theorem kw_424 : Cond.code ⟨"TombLane", "sideOf", "(J)I"⟩ prog_1_method_28_code 2 (some FieldType.int) ∈ big := big_mem 424 (by decide +kernel) rfl
theorem kw_425 : Cond.constantLong "TombLane" 207 (1818584692 : Int64) ∈ big := big_mem 425 (by decide +kernel) rfl
theorem kw_426 : Cond.constantLong "TombLane" 209 (491394656372 : Int64) ∈ big := big_mem 426 (by decide +kernel) rfl
theorem kw_427 : Cond.methodLink "TombLane" 218 ⟨"TombLane", "reasonOf", "(J)I"⟩ ∈ big := big_mem 427 (by decide +kernel) rfl
theorem kw_428 : Cond.static ⟨"TombLane", "reasonOf", "(J)I"⟩ ∈ big := big_mem 428 (by decide +kernel) rfl
theorem kw_429 : Cond.code ⟨"TombLane", "reasonOf", "(J)I"⟩ prog_1_method_27_code 2 (some FieldType.int) ∈ big := big_mem 429 (by decide +kernel) rfl
theorem kw_430 : Cond.constantLong "TombLane" 197 (2003792491 : Int64) ∈ big := big_mem 430 (by decide +kernel) rfl
theorem kw_431 : Cond.constantLong "TombLane" 199 (6909036 : Int64) ∈ big := big_mem 431 (by decide +kernel) rfl
theorem kw_432 : Cond.constantLong "TombLane" 201 (439787549556 : Int64) ∈ big := big_mem 432 (by decide +kernel) rfl
theorem kw_433 : Cond.constantLong "TombLane" 203 (1635213689 : Int64) ∈ big := big_mem 433 (by decide +kernel) rfl
theorem kw_434 : Cond.constantLong "TombLane" 205 (431417028203 : Int64) ∈ big := big_mem 434 (by decide +kernel) rfl
theorem kw_435 : Cond.methodLink "TombLane$Men" 38 ⟨"TombLane$Men", "find", "(J)I"⟩ ∈ big := big_mem 435 (by decide +kernel) rfl
theorem kw_437 : Cond.instanceMethod ⟨"TombLane$Men", "find", "(J)I"⟩ ∈ big := big_mem 437 (by decide +kernel) rfl
theorem kw_438 : Cond.code ⟨"TombLane$Men", "find", "(J)I"⟩ prog_8_method_4_code 4 (some FieldType.int) ∈ big := big_mem 438 (by decide +kernel) rfl
theorem kw_439 : Cond.methodLink "TombLaneLaw" 20 ⟨"TombLane", "feed", "(IIIII)I"⟩ ∈ big := big_mem 439 (by decide +kernel) rfl
theorem kw_440 : Cond.instanceMethod ⟨"TombLane", "feed", "(IIIII)I"⟩ ∈ big := big_mem 440 (by decide +kernel) rfl
theorem kw_441 : Cond.selects "TombLane" ⟨"TombLane", "feed", "(IIIII)I"⟩ ⟨"TombLane", "feed", "(IIIII)I"⟩ ∈ big := big_mem 441 (by decide +kernel) rfl
theorem kw_442 : Cond.code ⟨"TombLane", "feed", "(IIIII)I"⟩ prog_1_method_3_code 6 (some FieldType.int) ∈ big := big_mem 442 (by decide +kernel) rfl
theorem kw_443 : Cond.methodLinkNest "TombLane" 83 ⟨"TombLane$Tape", "hasRoomFor", "(I)Z"⟩ "TombLane" ∈ nn := nn_mem 443 (by decide +kernel) rfl
theorem kw_445 : Cond.instanceMethod ⟨"TombLane$Tape", "hasRoomFor", "(I)Z"⟩ ∈ big := big_mem 445 (by decide +kernel) rfl
theorem kw_446 : Cond.code ⟨"TombLane$Tape", "hasRoomFor", "(I)Z"⟩ prog_11_method_2_code 2 (some FieldType.boolean) ∈ big := big_mem 446 (by decide +kernel) rfl
theorem kw_447 : Cond.methodLinkNest "TombLane" 87 ⟨"TombLane$Tape", "append", "(I)V"⟩ "TombLane" ∈ nn := nn_mem 447 (by decide +kernel) rfl
theorem kw_449 : Cond.instanceMethod ⟨"TombLane$Tape", "append", "(I)V"⟩ ∈ big := big_mem 449 (by decide +kernel) rfl
theorem kw_450 : Cond.code ⟨"TombLane$Tape", "append", "(I)V"⟩ prog_11_method_3_code 3 (none : Option FieldType) ∈ big := big_mem 450 (by decide +kernel) rfl
theorem kw_451 : Cond.methodLink "TombLaneLaw" 25 ⟨"TombLane", "end", "(I)I"⟩ ∈ big := big_mem 451 (by decide +kernel) rfl
theorem kw_452 : Cond.instanceMethod ⟨"TombLane", "end", "(I)I"⟩ ∈ big := big_mem 452 (by decide +kernel) rfl
theorem kw_453 : Cond.selects "TombLane" ⟨"TombLane", "end", "(I)I"⟩ ⟨"TombLane", "end", "(I)I"⟩ ∈ big := big_mem 453 (by decide +kernel) rfl
theorem kw_454 : Cond.code ⟨"TombLane", "end", "(I)I"⟩ prog_1_method_4_code 2 (some FieldType.int) ∈ big := big_mem 454 (by decide +kernel) rfl
theorem kw_455 : Cond.methodLinkNest "TombLane" 94 ⟨"TombLane$Tape", "cut", "(I)Z"⟩ "TombLane" ∈ nn := nn_mem 455 (by decide +kernel) rfl
theorem kw_457 : Cond.instanceMethod ⟨"TombLane$Tape", "cut", "(I)Z"⟩ ∈ big := big_mem 457 (by decide +kernel) rfl
theorem kw_458 : Cond.code ⟨"TombLane$Tape", "cut", "(I)Z"⟩ prog_11_method_4_code 2 (some FieldType.boolean) ∈ big := big_mem 458 (by decide +kernel) rfl
theorem kw_459 : Cond.methodLink "TombLaneLaw" 30 ⟨"TombLane", "flake", "()I"⟩ ∈ big := big_mem 459 (by decide +kernel) rfl
theorem kw_460 : Cond.instanceMethod ⟨"TombLane", "flake", "()I"⟩ ∈ big := big_mem 460 (by decide +kernel) rfl
theorem kw_461 : Cond.selects "TombLane" ⟨"TombLane", "flake", "()I"⟩ ⟨"TombLane", "flake", "()I"⟩ ∈ big := big_mem 461 (by decide +kernel) rfl
theorem kw_462 : Cond.code ⟨"TombLane", "flake", "()I"⟩ prog_1_method_5_code 3 (some FieldType.int) ∈ big := big_mem 462 (by decide +kernel) rfl
theorem kw_463 : Cond.methodLinkNest "TombLane" 97 ⟨"TombLane$Flakes", "isFull", "()Z"⟩ "TombLane" ∈ nn := nn_mem 463 (by decide +kernel) rfl
theorem kw_465 : Cond.instanceMethod ⟨"TombLane$Flakes", "isFull", "()Z"⟩ ∈ big := big_mem 465 (by decide +kernel) rfl
theorem kw_466 : Cond.code ⟨"TombLane$Flakes", "isFull", "()Z"⟩ prog_6_method_3_code 1 (some FieldType.boolean) ∈ big := big_mem 466 (by decide +kernel) rfl
theorem kw_467 : Cond.methodLink "TombLane$Flakes" 18 ⟨"java/util/ArrayList", "size", "()I"⟩ ∈ big := big_mem 467 (by decide +kernel) rfl
theorem kw_468 : Cond.instanceMethod ⟨"java/util/ArrayList", "size", "()I"⟩ ∈ big := big_mem 468 (by decide +kernel) rfl
theorem kw_469 : Cond.selects "java/util/ArrayList" ⟨"java/util/ArrayList", "size", "()I"⟩ ⟨"java/util/ArrayList", "size", "()I"⟩ ∈ big := big_mem 469 (by decide +kernel) rfl
theorem kw_470 : Cond.code ⟨"java/util/ArrayList", "size", "()I"⟩ prog_22_method_8_code 1 (some FieldType.int) ∈ big := big_mem 470 (by decide +kernel) rfl
theorem kw_471 : Cond.classLink "TombLane" 101 "TombLane$Flake" ∈ big := big_mem 471 (by decide +kernel) rfl
theorem kw_472 : Cond.instantiable "TombLane$Flake" 4 ∈ big := big_mem 472 (by decide +kernel) rfl
theorem kw_473 : Cond.methodLinkNest "TombLane" 103 ⟨"TombLane$Flake", "<init>", "(I)V"⟩ "TombLane" ∈ nn := nn_mem 473 (by decide +kernel) rfl
theorem kw_474 : Cond.instanceMethod ⟨"TombLane$Flake", "<init>", "(I)V"⟩ ∈ big := big_mem 474 (by decide +kernel) rfl
theorem kw_475 : Cond.code ⟨"TombLane$Flake", "<init>", "(I)V"⟩ prog_4_method_1_code 2 (none : Option FieldType) ∈ big := big_mem 475 (by decide +kernel) rfl
theorem kw_476 : Cond.methodLink "TombLane$Flake" 1 ⟨"java/lang/Object", "<init>", "()V"⟩ ∈ big := big_mem 476 (by decide +kernel) rfl
theorem kw_477 : Cond.classLink "TombLane$Flake" 7 "java/util/ArrayList" ∈ big := big_mem 477 (by decide +kernel) rfl
theorem kw_478 : Cond.methodLink "TombLane$Flake" 9 ⟨"java/util/ArrayList", "<init>", "()V"⟩ ∈ big := big_mem 478 (by decide +kernel) rfl
theorem kw_479 : Cond.fieldLink "TombLane$Flake" 24 "TombLane$Flake" "found" "I" ∈ big := big_mem 479 (by decide +kernel) rfl
theorem kw_480 : Cond.fieldLink "TombLane$Flake" 10 "TombLane$Flake" "lines" "Ljava/util/ArrayList;" ∈ big := big_mem 480 (by decide +kernel) rfl
theorem kw_481 : Cond.fieldLinkNest "TombLane$FlakeReader" 92 "TombLane$Flake" "lines" "Ljava/util/ArrayList;" "TombLane" ∈ nn := nn_mem 481 (by decide +kernel) rfl
theorem kw_482 : Cond.fieldLinkNest "TombLane$DayBook" 76 "TombLane$Flake" "lines" "Ljava/util/ArrayList;" "TombLane" ∈ nn := nn_mem 482 (by decide +kernel) rfl
theorem kw_483 : Cond.fieldLinkNest "TombLane$Flakes" 44 "TombLane$Flake" "lines" "Ljava/util/ArrayList;" "TombLane" ∈ nn := nn_mem 483 (by decide +kernel) rfl
theorem kw_484 : Cond.fieldLink "TombLane$Flake" 16 "TombLane$Flake" "givenUp" "Z" ∈ big := big_mem 484 (by decide +kernel) rfl
theorem kw_485 : Cond.fieldLinkNest "TombLane$Flakes" 36 "TombLane$Flake" "givenUp" "Z" "TombLane" ∈ nn := nn_mem 485 (by decide +kernel) rfl
theorem kw_486 : Cond.fieldLink "TombLane$Flake" 20 "TombLane$Flake" "givenUpOn" "I" ∈ big := big_mem 486 (by decide +kernel) rfl
theorem kw_487 : Cond.fieldLinkNest "TombLane$Flakes" 40 "TombLane$Flake" "givenUpOn" "I" "TombLane" ∈ nn := nn_mem 487 (by decide +kernel) rfl
theorem kw_497 : Cond.methodLinkNest "TombLane" 105 ⟨"TombLane$FlakeReader", "read", "(LTombLane$Flake;)Z"⟩ "TombLane" ∈ nn := nn_mem 497 (by decide +kernel) rfl
theorem kw_499 : Cond.instanceMethod ⟨"TombLane$FlakeReader", "read", "(LTombLane$Flake;)Z"⟩ ∈ big := big_mem 499 (by decide +kernel) rfl
theorem kw_500 : Cond.code ⟨"TombLane$FlakeReader", "read", "(LTombLane$Flake;)Z"⟩ prog_5_method_2_code 3 (some FieldType.boolean) ∈ big := big_mem 500 (by decide +kernel) rfl
theorem kw_501 : Cond.methodLinkNest "TombLane$FlakeReader" 49 ⟨"TombLane$Tokens", "restart", "()V"⟩ "TombLane" ∈ nn := nn_mem 501 (by decide +kernel) rfl
theorem kw_503 : Cond.instanceMethod ⟨"TombLane$Tokens", "restart", "()V"⟩ ∈ big := big_mem 503 (by decide +kernel) rfl
theorem kw_504 : Cond.code ⟨"TombLane$Tokens", "restart", "()V"⟩ prog_12_method_2_code 1 (none : Option FieldType) ∈ big := big_mem 504 (by decide +kernel) rfl
theorem kw_505 : Cond.methodLinkNest "TombLane$FlakeReader" 52 ⟨"TombLane$Tokens", "advance", "()V"⟩ "TombLane" ∈ nn := nn_mem 505 (by decide +kernel) rfl
theorem kw_507 : Cond.instanceMethod ⟨"TombLane$Tokens", "advance", "()V"⟩ ∈ big := big_mem 507 (by decide +kernel) rfl
theorem kw_508 : Cond.code ⟨"TombLane$Tokens", "advance", "()V"⟩ prog_12_method_3_code 2 (none : Option FieldType) ∈ big := big_mem 508 (by decide +kernel) rfl
theorem kw_509 : Cond.methodLink "TombLane$Tokens" 29 ⟨"TombLane$Tokens", "skipBlanks", "()V"⟩ ∈ big := big_mem 509 (by decide +kernel) rfl
theorem kw_511 : Cond.instanceMethod ⟨"TombLane$Tokens", "skipBlanks", "()V"⟩ ∈ big := big_mem 511 (by decide +kernel) rfl
theorem kw_512 : Cond.code ⟨"TombLane$Tokens", "skipBlanks", "()V"⟩ prog_12_method_4_code 1 (none : Option FieldType) ∈ big := big_mem 512 (by decide +kernel) rfl
theorem kw_513 : Cond.methodLinkNest "TombLane$Tokens" 32 ⟨"TombLane$Tape", "at", "(I)I"⟩ "TombLane" ∈ nn := nn_mem 513 (by decide +kernel) rfl
theorem kw_515 : Cond.instanceMethod ⟨"TombLane$Tape", "at", "(I)I"⟩ ∈ big := big_mem 515 (by decide +kernel) rfl
theorem kw_516 : Cond.code ⟨"TombLane$Tape", "at", "(I)I"⟩ prog_11_method_5_code 2 (some FieldType.int) ∈ big := big_mem 516 (by decide +kernel) rfl
theorem kw_517 : Cond.methodLinkNest "TombLane$Tape" 19 ⟨"TombLane", "isBelow", "(II)Z"⟩ "TombLane" ∈ nn := nn_mem 517 (by decide +kernel) rfl
theorem kw_518 : Cond.methodLinkNest "TombLane$Tokens" 38 ⟨"TombLane", "isLetter", "(I)Z"⟩ "TombLane" ∈ nn := nn_mem 518 (by decide +kernel) rfl
theorem kw_519 : Cond.methodLink "TombLane$Tokens" 42 ⟨"TombLane$Tokens", "readWord", "()V"⟩ ∈ big := big_mem 519 (by decide +kernel) rfl
theorem kw_521 : Cond.instanceMethod ⟨"TombLane$Tokens", "readWord", "()V"⟩ ∈ big := big_mem 521 (by decide +kernel) rfl
theorem kw_522 : Cond.code ⟨"TombLane$Tokens", "readWord", "()V"⟩ prog_12_method_5_code 1 (none : Option FieldType) ∈ big := big_mem 522 (by decide +kernel) rfl
theorem kw_523 : Cond.methodLinkNest "TombLane$Tokens" 45 ⟨"TombLane", "isDigit", "(I)Z"⟩ "TombLane" ∈ nn := nn_mem 523 (by decide +kernel) rfl
theorem kw_524 : Cond.static ⟨"TombLane", "isDigit", "(I)Z"⟩ ∈ big := big_mem 524 (by decide +kernel) rfl
theorem kw_525 : Cond.code ⟨"TombLane", "isDigit", "(I)Z"⟩ prog_1_method_25_code 1 (some FieldType.boolean) ∈ big := big_mem 525 (by decide +kernel) rfl
theorem kw_526 : Cond.methodLink "TombLane$Tokens" 48 ⟨"TombLane$Tokens", "readNumber", "()V"⟩ ∈ big := big_mem 526 (by decide +kernel) rfl
theorem kw_528 : Cond.instanceMethod ⟨"TombLane$Tokens", "readNumber", "()V"⟩ ∈ big := big_mem 528 (by decide +kernel) rfl
theorem kw_529 : Cond.code ⟨"TombLane$Tokens", "readNumber", "()V"⟩ prog_12_method_6_code 2 (none : Option FieldType) ∈ big := big_mem 529 (by decide +kernel) rfl
theorem kw_530 : Cond.constantLong "TombLane$Tokens" 58 (10 : Int64) ∈ big := big_mem 530 (by decide +kernel) rfl
theorem kw_531 : Cond.methodLink "TombLane$Tokens" 51 ⟨"TombLane$Tokens", "readSign", "(I)V"⟩ ∈ big := big_mem 531 (by decide +kernel) rfl
theorem kw_533 : Cond.instanceMethod ⟨"TombLane$Tokens", "readSign", "(I)V"⟩ ∈ big := big_mem 533 (by decide +kernel) rfl
theorem kw_534 : Cond.code ⟨"TombLane$Tokens", "readSign", "(I)V"⟩ prog_12_method_7_code 2 (none : Option FieldType) ∈ big := big_mem 534 (by decide +kernel) rfl
theorem kw_535 : Cond.methodLink "TombLane$FlakeReader" 58 ⟨"TombLane$FlakeReader", "faultOfToken", "(LTombLane$Flake;)I"⟩ ∈ big := big_mem 535 (by decide +kernel) rfl
theorem kw_537 : Cond.instanceMethod ⟨"TombLane$FlakeReader", "faultOfToken", "(LTombLane$Flake;)I"⟩ ∈ big := big_mem 537 (by decide +kernel) rfl
theorem kw_538 : Cond.code ⟨"TombLane$FlakeReader", "faultOfToken", "(LTombLane$Flake;)I"⟩ prog_5_method_3_code 2 (some FieldType.int) ∈ big := big_mem 538 (by decide +kernel) rfl
theorem kw_539 : Cond.methodLink "TombLane$FlakeReader" 63 ⟨"TombLane$FlakeReader", "takeLine", "(LTombLane$Flake;)I"⟩ ∈ big := big_mem 539 (by decide +kernel) rfl
theorem kw_541 : Cond.instanceMethod ⟨"TombLane$FlakeReader", "takeLine", "(LTombLane$Flake;)I"⟩ ∈ big := big_mem 541 (by decide +kernel) rfl
theorem kw_542 : Cond.code ⟨"TombLane$FlakeReader", "takeLine", "(LTombLane$Flake;)I"⟩ prog_5_method_4_code 2 (some FieldType.int) ∈ big := big_mem 542 (by decide +kernel) rfl
theorem kw_543 : Cond.constantLong "TombLane$FlakeReader" 86 (6578553 : Int64) ∈ big := big_mem 543 (by decide +kernel) rfl
theorem kw_544 : Cond.methodLinkNest "TombLane$FlakeReader" 88 ⟨"TombLane$Tokens", "isWord", "(J)Z"⟩ "TombLane" ∈ nn := nn_mem 544 (by decide +kernel) rfl
theorem kw_546 : Cond.instanceMethod ⟨"TombLane$Tokens", "isWord", "(J)Z"⟩ ∈ big := big_mem 546 (by decide +kernel) rfl
theorem kw_547 : Cond.code ⟨"TombLane$Tokens", "isWord", "(J)Z"⟩ prog_12_method_9_code 3 (some FieldType.boolean) ∈ big := big_mem 547 (by decide +kernel) rfl
theorem kw_548 : Cond.methodLink "TombLane$FlakeReader" 98 ⟨"java/util/ArrayList", "size", "()I"⟩ ∈ big := big_mem 548 (by decide +kernel) rfl
theorem kw_549 : Cond.methodLink "TombLane$FlakeReader" 103 ⟨"TombLane$FlakeReader", "expect", "(I)I"⟩ ∈ big := big_mem 549 (by decide +kernel) rfl
theorem kw_551 : Cond.instanceMethod ⟨"TombLane$FlakeReader", "expect", "(I)I"⟩ ∈ big := big_mem 551 (by decide +kernel) rfl
theorem kw_552 : Cond.code ⟨"TombLane$FlakeReader", "expect", "(I)I"⟩ prog_5_method_12_code 2 (some FieldType.int) ∈ big := big_mem 552 (by decide +kernel) rfl
theorem kw_553 : Cond.methodLink "TombLane$FlakeReader" 66 ⟨"TombLane$FlakeReader", "takeDayNumber", "()I"⟩ ∈ big := big_mem 553 (by decide +kernel) rfl
theorem kw_555 : Cond.instanceMethod ⟨"TombLane$FlakeReader", "takeDayNumber", "()I"⟩ ∈ big := big_mem 555 (by decide +kernel) rfl
theorem kw_556 : Cond.code ⟨"TombLane$FlakeReader", "takeDayNumber", "()I"⟩ prog_5_method_5_code 1 (some FieldType.int) ∈ big := big_mem 556 (by decide +kernel) rfl
theorem kw_557 : Cond.constantLong "TombLane$FlakeReader" 111 (3600 : Int64) ∈ big := big_mem 557 (by decide +kernel) rfl
theorem kw_558 : Cond.methodLink "TombLane$FlakeReader" 70 ⟨"TombLane$FlakeReader", "takeGang", "(LTombLane$Flake;)I"⟩ ∈ big := big_mem 558 (by decide +kernel) rfl
theorem kw_560 : Cond.instanceMethod ⟨"TombLane$FlakeReader", "takeGang", "(LTombLane$Flake;)I"⟩ ∈ big := big_mem 560 (by decide +kernel) rfl
theorem kw_561 : Cond.code ⟨"TombLane$FlakeReader", "takeGang", "(LTombLane$Flake;)I"⟩ prog_5_method_6_code 3 (some FieldType.int) ∈ big := big_mem 561 (by decide +kernel) rfl
theorem kw_562 : Cond.methodLinkNest "TombLane$FlakeReader" 113 ⟨"TombLane", "sideOf", "(J)I"⟩ "TombLane" ∈ nn := nn_mem 562 (by decide +kernel) rfl
theorem kw_563 : Cond.methodLink "TombLane$FlakeReader" 117 ⟨"java/util/ArrayList", "add", "(Ljava/lang/Object;)Z"⟩ ∈ big := big_mem 563 (by decide +kernel) rfl
theorem kw_564 : Cond.instanceMethod ⟨"java/util/ArrayList", "add", "(Ljava/lang/Object;)Z"⟩ ∈ big := big_mem 564 (by decide +kernel) rfl
theorem kw_565 : Cond.selects "java/util/ArrayList" ⟨"java/util/ArrayList", "add", "(Ljava/lang/Object;)Z"⟩ ⟨"java/util/ArrayList", "add", "(Ljava/lang/Object;)Z"⟩ ∈ big := big_mem 565 (by decide +kernel) rfl
theorem kw_566 : Cond.code ⟨"java/util/ArrayList", "add", "(Ljava/lang/Object;)Z"⟩ prog_22_method_25_code 2 (some FieldType.boolean) ∈ big := big_mem 566 (by decide +kernel) rfl
theorem kw_567 : Cond.methodLink "java/util/ArrayList" 131 ⟨"java/util/ArrayList", "add", "(Ljava/lang/Object;[Ljava/lang/Object;I)V"⟩ ∈ big := big_mem 567 (by decide +kernel) rfl
theorem kw_569 : Cond.instanceMethod ⟨"java/util/ArrayList", "add", "(Ljava/lang/Object;[Ljava/lang/Object;I)V"⟩ ∈ big := big_mem 569 (by decide +kernel) rfl
theorem kw_570 : Cond.code ⟨"java/util/ArrayList", "add", "(Ljava/lang/Object;[Ljava/lang/Object;I)V"⟩ prog_22_method_24_code 4 (none : Option FieldType) ∈ big := big_mem 570 (by decide +kernel) rfl
theorem kw_571 : Cond.methodLink "java/util/ArrayList" 129 ⟨"java/util/ArrayList", "grow", "()[Ljava/lang/Object;"⟩ ∈ big := big_mem 571 (by decide +kernel) rfl
theorem kw_573 : Cond.instanceMethod ⟨"java/util/ArrayList", "grow", "()[Ljava/lang/Object;"⟩ ∈ big := big_mem 573 (by decide +kernel) rfl
theorem kw_574 : Cond.code ⟨"java/util/ArrayList", "grow", "()[Ljava/lang/Object;"⟩ prog_22_method_7_code 1 (some (FieldType.array (FieldType.object "java/lang/Object"))) ∈ big := big_mem 574 (by decide +kernel) rfl
theorem kw_575 : Cond.methodLink "java/util/ArrayList" 69 ⟨"java/util/ArrayList", "grow", "(I)[Ljava/lang/Object;"⟩ ∈ big := big_mem 575 (by decide +kernel) rfl
theorem kw_577 : Cond.instanceMethod ⟨"java/util/ArrayList", "grow", "(I)[Ljava/lang/Object;"⟩ ∈ big := big_mem 577 (by decide +kernel) rfl
theorem kw_578 : Cond.code ⟨"java/util/ArrayList", "grow", "(I)[Ljava/lang/Object;"⟩ prog_22_method_6_code 4 (some (FieldType.array (FieldType.object "java/lang/Object"))) ∈ big := big_mem 578 (by decide +kernel) rfl
theorem kw_579 : Cond.methodLink "java/util/ArrayList" 73 ⟨"jdk/internal/util/ArraysSupport", "newLength", "(III)I"⟩ ∈ big := big_mem 579 (by decide +kernel) rfl
theorem kw_580 : Cond.static ⟨"jdk/internal/util/ArraysSupport", "newLength", "(III)I"⟩ ∈ big := big_mem 580 (by decide +kernel) rfl
theorem kw_581 : Cond.code ⟨"jdk/internal/util/ArraysSupport", "newLength", "(III)I"⟩ prog_29_method_27_code 4 (some FieldType.int) ∈ big := big_mem 581 (by decide +kernel) rfl
theorem kw_582 : Cond.methodLink "jdk/internal/util/ArraysSupport" 194 ⟨"java/lang/Math", "max", "(II)I"⟩ ∈ big := big_mem 582 (by decide +kernel) rfl
theorem kw_583 : Cond.static ⟨"java/lang/Math", "max", "(II)I"⟩ ∈ big := big_mem 583 (by decide +kernel) rfl
theorem kw_584 : Cond.code ⟨"java/lang/Math", "max", "(II)I"⟩ prog_18_method_65_code 2 (some FieldType.int) ∈ big := big_mem 584 (by decide +kernel) rfl
theorem kw_585 : Cond.constant "jdk/internal/util/ArraysSupport" 200 (2147483639 : Int32) ∈ big := big_mem 585 (by decide +kernel) rfl
theorem kw_586 : Cond.methodLink "jdk/internal/util/ArraysSupport" 201 ⟨"jdk/internal/util/ArraysSupport", "hugeLength", "(II)I"⟩ ∈ big := big_mem 586 (by decide +kernel) rfl
theorem kw_587 : Cond.static ⟨"jdk/internal/util/ArraysSupport", "hugeLength", "(II)I"⟩ ∈ big := big_mem 587 (by decide +kernel) rfl
theorem kw_588 : Cond.code ⟨"jdk/internal/util/ArraysSupport", "hugeLength", "(II)I"⟩ prog_29_method_28_code 3 (some FieldType.int) ∈ big := big_mem 588 (by decide +kernel) rfl
theorem kw_589 : Cond.methodLink "java/util/ArrayList" 66 ⟨"java/util/Arrays", "copyOf", "([Ljava/lang/Object;I)[Ljava/lang/Object;"⟩ ∈ big := big_mem 589 (by decide +kernel) rfl
theorem kw_590 : Cond.static ⟨"java/util/Arrays", "copyOf", "([Ljava/lang/Object;I)[Ljava/lang/Object;"⟩ ∈ big := big_mem 590 (by decide +kernel) rfl
theorem kw_591 : Cond.code ⟨"java/util/Arrays", "copyOf", "([Ljava/lang/Object;I)[Ljava/lang/Object;"⟩ prog_23_method_119_code 2 (some (FieldType.array (FieldType.object "java/lang/Object"))) ∈ big := big_mem 591 (by decide +kernel) rfl
theorem kw_592 : Cond.methodLink "java/util/Arrays" 86 ⟨"java/lang/Object", "getClass", "()Ljava/lang/Class;"⟩ ∈ big := big_mem 592 (by decide +kernel) rfl
theorem kw_593 : Cond.instanceMethod ⟨"java/lang/Object", "getClass", "()Ljava/lang/Class;"⟩ ∈ big := big_mem 593 (by decide +kernel) rfl
theorem kw_594 : Cond.sameMethod "java/lang/Object" "java/lang/Object" "getClass" "()Ljava/lang/Class;" ∈ big := big_mem 594 (by decide +kernel) rfl
theorem kw_595 : Cond.selects "TombLane" ⟨"java/lang/Object", "getClass", "()Ljava/lang/Class;"⟩ ⟨"java/lang/Object", "getClass", "()Ljava/lang/Class;"⟩ ∈ big := big_mem 595 (by decide +kernel) rfl
theorem kw_596 : Cond.selects "TombLane$DayBook" ⟨"java/lang/Object", "getClass", "()Ljava/lang/Class;"⟩ ⟨"java/lang/Object", "getClass", "()Ljava/lang/Class;"⟩ ∈ big := big_mem 596 (by decide +kernel) rfl
theorem kw_597 : Cond.selects "TombLane$Debts" ⟨"java/lang/Object", "getClass", "()Ljava/lang/Class;"⟩ ⟨"java/lang/Object", "getClass", "()Ljava/lang/Class;"⟩ ∈ big := big_mem 597 (by decide +kernel) rfl
theorem kw_598 : Cond.selects "TombLane$Flake" ⟨"java/lang/Object", "getClass", "()Ljava/lang/Class;"⟩ ⟨"java/lang/Object", "getClass", "()Ljava/lang/Class;"⟩ ∈ big := big_mem 598 (by decide +kernel) rfl
theorem kw_599 : Cond.selects "TombLane$FlakeReader" ⟨"java/lang/Object", "getClass", "()Ljava/lang/Class;"⟩ ⟨"java/lang/Object", "getClass", "()Ljava/lang/Class;"⟩ ∈ big := big_mem 599 (by decide +kernel) rfl
theorem kw_600 : Cond.selects "TombLane$Flakes" ⟨"java/lang/Object", "getClass", "()Ljava/lang/Class;"⟩ ⟨"java/lang/Object", "getClass", "()Ljava/lang/Class;"⟩ ∈ big := big_mem 600 (by decide +kernel) rfl
theorem kw_601 : Cond.selects "TombLane$Line" ⟨"java/lang/Object", "getClass", "()Ljava/lang/Class;"⟩ ⟨"java/lang/Object", "getClass", "()Ljava/lang/Class;"⟩ ∈ big := big_mem 601 (by decide +kernel) rfl
theorem kw_602 : Cond.selects "TombLane$Men" ⟨"java/lang/Object", "getClass", "()Ljava/lang/Class;"⟩ ⟨"java/lang/Object", "getClass", "()Ljava/lang/Class;"⟩ ∈ big := big_mem 602 (by decide +kernel) rfl
theorem kw_603 : Cond.selects "TombLane$Rations" ⟨"java/lang/Object", "getClass", "()Ljava/lang/Class;"⟩ ⟨"java/lang/Object", "getClass", "()Ljava/lang/Class;"⟩ ∈ big := big_mem 603 (by decide +kernel) rfl
theorem kw_604 : Cond.selects "TombLane$Settling" ⟨"java/lang/Object", "getClass", "()Ljava/lang/Class;"⟩ ⟨"java/lang/Object", "getClass", "()Ljava/lang/Class;"⟩ ∈ big := big_mem 604 (by decide +kernel) rfl
theorem kw_605 : Cond.selects "TombLane$Tape" ⟨"java/lang/Object", "getClass", "()Ljava/lang/Class;"⟩ ⟨"java/lang/Object", "getClass", "()Ljava/lang/Class;"⟩ ∈ big := big_mem 605 (by decide +kernel) rfl
theorem kw_606 : Cond.selects "TombLane$Tokens" ⟨"java/lang/Object", "getClass", "()Ljava/lang/Class;"⟩ ⟨"java/lang/Object", "getClass", "()Ljava/lang/Class;"⟩ ∈ big := big_mem 606 (by decide +kernel) rfl
theorem kw_607 : Cond.selects "TombLaneModel" ⟨"java/lang/Object", "getClass", "()Ljava/lang/Class;"⟩ ⟨"java/lang/Object", "getClass", "()Ljava/lang/Class;"⟩ ∈ big := big_mem 607 (by decide +kernel) rfl
theorem kw_608 : Cond.selects "java/util/ArrayList" ⟨"java/lang/Object", "getClass", "()Ljava/lang/Class;"⟩ ⟨"java/lang/Object", "getClass", "()Ljava/lang/Class;"⟩ ∈ big := big_mem 608 (by decide +kernel) rfl
theorem kw_609 : Cond.native ⟨"java/lang/Object", "getClass", "()Ljava/lang/Class;"⟩ ∈ big := big_mem 609 (by decide +kernel) rfl
theorem kw_610 : Cond.methodLink "java/util/Arrays" 300 ⟨"java/util/Arrays", "copyOf", "([Ljava/lang/Object;ILjava/lang/Class;)[Ljava/lang/Object;"⟩ ∈ big := big_mem 610 (by decide +kernel) rfl
theorem kw_611 : Cond.static ⟨"java/util/Arrays", "copyOf", "([Ljava/lang/Object;ILjava/lang/Class;)[Ljava/lang/Object;"⟩ ∈ big := big_mem 611 (by decide +kernel) rfl
theorem kw_612 : Cond.code ⟨"java/util/Arrays", "copyOf", "([Ljava/lang/Object;ILjava/lang/Class;)[Ljava/lang/Object;"⟩ prog_23_method_120_code 4 (some (FieldType.array (FieldType.object "java/lang/Object"))) ∈ big := big_mem 612 (by decide +kernel) rfl
theorem kw_613 : Cond.classLink "java/util/Arrays" 110 "[Ljava/lang/Object;" ∈ big := big_mem 613 (by decide +kernel) rfl
theorem kw_614 : Cond.arrayOver (FieldType.object "java/lang/Object") ∈ lw_tbl := List.mem_of_getElem? (i := 614) (by decide +kernel)
theorem kw_615 : Cond.classLink "java/util/Arrays" 2 "java/lang/Object" ∈ big := big_mem 615 (by decide +kernel) rfl
theorem kw_616 : Cond.methodLink "java/util/Arrays" 304 ⟨"java/lang/Math", "min", "(II)I"⟩ ∈ big := big_mem 616 (by decide +kernel) rfl
theorem kw_617 : Cond.static ⟨"java/lang/Math", "min", "(II)I"⟩ ∈ big := big_mem 617 (by decide +kernel) rfl
theorem kw_618 : Cond.code ⟨"java/lang/Math", "min", "(II)I"⟩ prog_18_method_69_code 2 (some FieldType.int) ∈ big := big_mem 618 (by decide +kernel) rfl
theorem kw_619 : Cond.methodLink "java/util/Arrays" 150 ⟨"java/lang/System", "arraycopy", "(Ljava/lang/Object;ILjava/lang/Object;II)V"⟩ ∈ big := big_mem 619 (by decide +kernel) rfl
theorem kw_620 : Cond.static ⟨"java/lang/System", "arraycopy", "(Ljava/lang/Object;ILjava/lang/Object;II)V"⟩ ∈ big := big_mem 620 (by decide +kernel) rfl
theorem kw_621 : Cond.native ⟨"java/lang/System", "arraycopy", "(Ljava/lang/Object;ILjava/lang/Object;II)V"⟩ ∈ big := big_mem 621 (by decide +kernel) rfl
theorem kw_622 : Cond.methodLink "java/util/ArrayList" 79 ⟨"java/lang/Math", "max", "(II)I"⟩ ∈ big := big_mem 622 (by decide +kernel) rfl
theorem kw_623 : Cond.classLink "java/util/ArrayList" 7 "java/lang/Object" ∈ big := big_mem 623 (by decide +kernel) rfl
theorem kw_624 : Cond.methodLink "TombLane$FlakeReader" 73 ⟨"TombLane$FlakeReader", "takeSign", "(CI)I"⟩ ∈ big := big_mem 624 (by decide +kernel) rfl
theorem kw_626 : Cond.instanceMethod ⟨"TombLane$FlakeReader", "takeSign", "(CI)I"⟩ ∈ big := big_mem 626 (by decide +kernel) rfl
theorem kw_627 : Cond.code ⟨"TombLane$FlakeReader", "takeSign", "(CI)I"⟩ prog_5_method_7_code 3 (some FieldType.int) ∈ big := big_mem 627 (by decide +kernel) rfl
theorem kw_628 : Cond.methodLinkNest "TombLane$FlakeReader" 121 ⟨"TombLane$Tokens", "isSign", "(C)Z"⟩ "TombLane" ∈ nn := nn_mem 628 (by decide +kernel) rfl
theorem kw_630 : Cond.instanceMethod ⟨"TombLane$Tokens", "isSign", "(C)Z"⟩ ∈ big := big_mem 630 (by decide +kernel) rfl
theorem kw_631 : Cond.code ⟨"TombLane$Tokens", "isSign", "(C)Z"⟩ prog_12_method_8_code 2 (some FieldType.boolean) ∈ big := big_mem 631 (by decide +kernel) rfl
theorem kw_632 : Cond.methodLink "TombLane$FlakeReader" 77 ⟨"TombLane$FlakeReader", "takeEntry", "()I"⟩ ∈ big := big_mem 632 (by decide +kernel) rfl
theorem kw_634 : Cond.instanceMethod ⟨"TombLane$FlakeReader", "takeEntry", "()I"⟩ ∈ big := big_mem 634 (by decide +kernel) rfl
theorem kw_635 : Cond.code ⟨"TombLane$FlakeReader", "takeEntry", "()I"⟩ prog_5_method_8_code 1 (some FieldType.int) ∈ big := big_mem 635 (by decide +kernel) rfl
theorem kw_636 : Cond.constantLong "TombLane$FlakeReader" 129 (512869231475 : Int64) ∈ big := big_mem 636 (by decide +kernel) rfl
theorem kw_637 : Cond.methodLinkNest "TombLane$FlakeReader" 131 ⟨"TombLane", "isFree", "(J)Z"⟩ "TombLane" ∈ nn := nn_mem 637 (by decide +kernel) rfl
theorem kw_638 : Cond.methodLink "TombLane$FlakeReader" 134 ⟨"TombLane$FlakeReader", "takeName", "()I"⟩ ∈ big := big_mem 638 (by decide +kernel) rfl
theorem kw_640 : Cond.instanceMethod ⟨"TombLane$FlakeReader", "takeName", "()I"⟩ ∈ big := big_mem 640 (by decide +kernel) rfl
theorem kw_641 : Cond.code ⟨"TombLane$FlakeReader", "takeName", "()I"⟩ prog_5_method_9_code 1 (some FieldType.int) ∈ big := big_mem 641 (by decide +kernel) rfl
theorem kw_642 : Cond.methodLinkNest "TombLane$FlakeReader" 140 ⟨"TombLane$Men", "findInGang", "(JI)I"⟩ "TombLane" ∈ nn := nn_mem 642 (by decide +kernel) rfl
theorem kw_644 : Cond.instanceMethod ⟨"TombLane$Men", "findInGang", "(JI)I"⟩ ∈ big := big_mem 644 (by decide +kernel) rfl
theorem kw_645 : Cond.code ⟨"TombLane$Men", "findInGang", "(JI)I"⟩ prog_8_method_5_code 5 (some FieldType.int) ∈ big := big_mem 645 (by decide +kernel) rfl
theorem kw_646 : Cond.methodLinkNest "TombLane$FlakeReader" 146 ⟨"TombLane$Line", "names", "(I)Z"⟩ "TombLane" ∈ nn := nn_mem 646 (by decide +kernel) rfl
theorem kw_648 : Cond.instanceMethod ⟨"TombLane$Line", "names", "(I)Z"⟩ ∈ big := big_mem 648 (by decide +kernel) rfl
theorem kw_649 : Cond.code ⟨"TombLane$Line", "names", "(I)Z"⟩ prog_7_method_3_code 2 (some FieldType.boolean) ∈ big := big_mem 649 (by decide +kernel) rfl
theorem kw_650 : Cond.methodLink "TombLane$FlakeReader" 80 ⟨"TombLane$FlakeReader", "takeToldOfName", "()I"⟩ ∈ big := big_mem 650 (by decide +kernel) rfl
theorem kw_652 : Cond.instanceMethod ⟨"TombLane$FlakeReader", "takeToldOfName", "()I"⟩ ∈ big := big_mem 652 (by decide +kernel) rfl
theorem kw_653 : Cond.code ⟨"TombLane$FlakeReader", "takeToldOfName", "()I"⟩ prog_5_method_10_code 2 (some FieldType.int) ∈ big := big_mem 653 (by decide +kernel) rfl
theorem kw_654 : Cond.methodLinkNest "TombLane$FlakeReader" 154 ⟨"TombLane", "reasonOf", "(J)I"⟩ "TombLane" ∈ nn := nn_mem 654 (by decide +kernel) rfl
theorem kw_655 : Cond.methodLink "TombLane$FlakeReader" 83 ⟨"TombLane$FlakeReader", "takeWicksNumber", "()I"⟩ ∈ big := big_mem 655 (by decide +kernel) rfl
theorem kw_657 : Cond.instanceMethod ⟨"TombLane$FlakeReader", "takeWicksNumber", "()I"⟩ ∈ big := big_mem 657 (by decide +kernel) rfl
theorem kw_658 : Cond.code ⟨"TombLane$FlakeReader", "takeWicksNumber", "()I"⟩ prog_5_method_11_code 1 (some FieldType.int) ∈ big := big_mem 658 (by decide +kernel) rfl
theorem kw_659 : Cond.methodLinkNest "TombLane" 109 ⟨"TombLane$Flakes", "keep", "(LTombLane$Flake;)I"⟩ "TombLane" ∈ nn := nn_mem 659 (by decide +kernel) rfl
theorem kw_661 : Cond.instanceMethod ⟨"TombLane$Flakes", "keep", "(LTombLane$Flake;)I"⟩ ∈ big := big_mem 661 (by decide +kernel) rfl
theorem kw_662 : Cond.code ⟨"TombLane$Flakes", "keep", "(LTombLane$Flake;)I"⟩ prog_6_method_4_code 2 (some FieldType.int) ∈ big := big_mem 662 (by decide +kernel) rfl
theorem kw_663 : Cond.methodLink "TombLane$Flakes" 22 ⟨"java/util/ArrayList", "add", "(Ljava/lang/Object;)Z"⟩ ∈ big := big_mem 663 (by decide +kernel) rfl
theorem kw_664 : Cond.methodLink "TombLaneLaw" 35 ⟨"TombLane", "fault", "(I)I"⟩ ∈ big := big_mem 664 (by decide +kernel) rfl
theorem kw_665 : Cond.instanceMethod ⟨"TombLane", "fault", "(I)I"⟩ ∈ big := big_mem 665 (by decide +kernel) rfl
theorem kw_666 : Cond.selects "TombLane" ⟨"TombLane", "fault", "(I)I"⟩ ⟨"TombLane", "fault", "(I)I"⟩ ∈ big := big_mem 666 (by decide +kernel) rfl
theorem kw_667 : Cond.code ⟨"TombLane", "fault", "(I)I"⟩ prog_1_method_6_code 2 (some FieldType.int) ∈ big := big_mem 667 (by decide +kernel) rfl
theorem kw_668 : Cond.methodLink "TombLaneLaw" 39 ⟨"TombLane", "giveUp", "(I)Z"⟩ ∈ big := big_mem 668 (by decide +kernel) rfl
theorem kw_669 : Cond.instanceMethod ⟨"TombLane", "giveUp", "(I)Z"⟩ ∈ big := big_mem 669 (by decide +kernel) rfl
theorem kw_670 : Cond.selects "TombLane" ⟨"TombLane", "giveUp", "(I)Z"⟩ ⟨"TombLane", "giveUp", "(I)Z"⟩ ∈ big := big_mem 670 (by decide +kernel) rfl
theorem kw_671 : Cond.code ⟨"TombLane", "giveUp", "(I)Z"⟩ prog_1_method_7_code 2 (some FieldType.boolean) ∈ big := big_mem 671 (by decide +kernel) rfl
theorem kw_672 : Cond.methodLinkNest "TombLane" 119 ⟨"TombLane$Flakes", "giveUpOn", "(II)Z"⟩ "TombLane" ∈ nn := nn_mem 672 (by decide +kernel) rfl
theorem kw_674 : Cond.instanceMethod ⟨"TombLane$Flakes", "giveUpOn", "(II)Z"⟩ ∈ big := big_mem 674 (by decide +kernel) rfl
theorem kw_675 : Cond.code ⟨"TombLane$Flakes", "giveUpOn", "(II)Z"⟩ prog_6_method_5_code 3 (some FieldType.boolean) ∈ big := big_mem 675 (by decide +kernel) rfl
theorem kw_676 : Cond.methodLinkNest "TombLane$Flakes" 26 ⟨"TombLane", "isBelow", "(II)Z"⟩ "TombLane" ∈ nn := nn_mem 676 (by decide +kernel) rfl
theorem kw_677 : Cond.methodLink "TombLane$Flakes" 30 ⟨"java/util/ArrayList", "get", "(I)Ljava/lang/Object;"⟩ ∈ big := big_mem 677 (by decide +kernel) rfl
theorem kw_678 : Cond.instanceMethod ⟨"java/util/ArrayList", "get", "(I)Ljava/lang/Object;"⟩ ∈ big := big_mem 678 (by decide +kernel) rfl
theorem kw_679 : Cond.selects "java/util/ArrayList" ⟨"java/util/ArrayList", "get", "(I)Ljava/lang/Object;"⟩ ⟨"java/util/ArrayList", "get", "(I)Ljava/lang/Object;"⟩ ∈ big := big_mem 679 (by decide +kernel) rfl
theorem kw_680 : Cond.code ⟨"java/util/ArrayList", "get", "(I)Ljava/lang/Object;"⟩ prog_22_method_20_code 2 (some (FieldType.object "java/lang/Object")) ∈ big := big_mem 680 (by decide +kernel) rfl
theorem kw_681 : Cond.methodLink "java/util/ArrayList" 118 ⟨"java/util/Objects", "checkIndex", "(II)I"⟩ ∈ big := big_mem 681 (by decide +kernel) rfl
theorem kw_682 : Cond.static ⟨"java/util/Objects", "checkIndex", "(II)I"⟩ ∈ big := big_mem 682 (by decide +kernel) rfl
theorem kw_683 : Cond.code ⟨"java/util/Objects", "checkIndex", "(II)I"⟩ prog_26_method_17_code 2 (some FieldType.int) ∈ big := big_mem 683 (by decide +kernel) rfl
theorem kw_684 : Cond.methodLink "java/util/Objects" 105 ⟨"jdk/internal/util/Preconditions", "checkIndex", "(IILjava/util/function/BiFunction;)I"⟩ ∈ big := big_mem 684 (by decide +kernel) rfl
theorem kw_685 : Cond.static ⟨"jdk/internal/util/Preconditions", "checkIndex", "(IILjava/util/function/BiFunction;)I"⟩ ∈ big := big_mem 685 (by decide +kernel) rfl
theorem kw_686 : Cond.code ⟨"jdk/internal/util/Preconditions", "checkIndex", "(IILjava/util/function/BiFunction;)I"⟩ prog_30_method_11_code 3 (some FieldType.int) ∈ big := big_mem 686 (by decide +kernel) rfl
theorem kw_687 : Cond.methodLink "java/util/ArrayList" 123 ⟨"java/util/ArrayList", "elementData", "(I)Ljava/lang/Object;"⟩ ∈ big := big_mem 687 (by decide +kernel) rfl
theorem kw_688 : Cond.instanceMethod ⟨"java/util/ArrayList", "elementData", "(I)Ljava/lang/Object;"⟩ ∈ big := big_mem 688 (by decide +kernel) rfl
theorem kw_689 : Cond.selects "java/util/ArrayList" ⟨"java/util/ArrayList", "elementData", "(I)Ljava/lang/Object;"⟩ ⟨"java/util/ArrayList", "elementData", "(I)Ljava/lang/Object;"⟩ ∈ big := big_mem 689 (by decide +kernel) rfl
theorem kw_690 : Cond.code ⟨"java/util/ArrayList", "elementData", "(I)Ljava/lang/Object;"⟩ prog_22_method_18_code 2 (some (FieldType.object "java/lang/Object")) ∈ big := big_mem 690 (by decide +kernel) rfl
theorem kw_691 : Cond.classLink "TombLane$Flakes" 34 "TombLane$Flake" ∈ big := big_mem 691 (by decide +kernel) rfl
theorem kw_692 : Cond.methodLink "TombLaneLaw" 44 ⟨"TombLane", "later", "(I)I"⟩ ∈ big := big_mem 692 (by decide +kernel) rfl
theorem kw_693 : Cond.instanceMethod ⟨"TombLane", "later", "(I)I"⟩ ∈ big := big_mem 693 (by decide +kernel) rfl
theorem kw_694 : Cond.selects "TombLane" ⟨"TombLane", "later", "(I)I"⟩ ⟨"TombLane", "later", "(I)I"⟩ ∈ big := big_mem 694 (by decide +kernel) rfl
theorem kw_695 : Cond.code ⟨"TombLane", "later", "(I)I"⟩ prog_1_method_8_code 2 (some FieldType.int) ∈ big := big_mem 695 (by decide +kernel) rfl
theorem kw_696 : Cond.constant "TombLane" 122 (100000 : Int32) ∈ big := big_mem 696 (by decide +kernel) rfl
theorem kw_697 : Cond.methodLink "TombLaneLaw" 48 ⟨"TombLane", "day", "(III)I"⟩ ∈ big := big_mem 697 (by decide +kernel) rfl
theorem kw_698 : Cond.instanceMethod ⟨"TombLane", "day", "(III)I"⟩ ∈ big := big_mem 698 (by decide +kernel) rfl
theorem kw_699 : Cond.selects "TombLane" ⟨"TombLane", "day", "(III)I"⟩ ⟨"TombLane", "day", "(III)I"⟩ ∈ big := big_mem 699 (by decide +kernel) rfl
theorem kw_700 : Cond.code ⟨"TombLane", "day", "(III)I"⟩ prog_1_method_9_code 4 (some FieldType.int) ∈ big := big_mem 700 (by decide +kernel) rfl
theorem kw_701 : Cond.methodLinkNest "TombLane" 123 ⟨"TombLane$Men", "has", "(I)Z"⟩ "TombLane" ∈ nn := nn_mem 701 (by decide +kernel) rfl
theorem kw_703 : Cond.instanceMethod ⟨"TombLane$Men", "has", "(I)Z"⟩ ∈ big := big_mem 703 (by decide +kernel) rfl
theorem kw_704 : Cond.code ⟨"TombLane$Men", "has", "(I)Z"⟩ prog_8_method_2_code 2 (some FieldType.boolean) ∈ big := big_mem 704 (by decide +kernel) rfl
theorem kw_705 : Cond.methodLinkNest "TombLane$Men" 26 ⟨"TombLane", "isBelow", "(II)Z"⟩ "TombLane" ∈ nn := nn_mem 705 (by decide +kernel) rfl
theorem kw_706 : Cond.methodLinkNest "TombLane" 126 ⟨"TombLane$DayBook", "stateOf", "(III)I"⟩ "TombLane" ∈ nn := nn_mem 706 (by decide +kernel) rfl
theorem kw_708 : Cond.instanceMethod ⟨"TombLane$DayBook", "stateOf", "(III)I"⟩ ∈ big := big_mem 708 (by decide +kernel) rfl
theorem kw_709 : Cond.code ⟨"TombLane$DayBook", "stateOf", "(III)I"⟩ prog_2_method_2_code 4 (some FieldType.int) ∈ big := big_mem 709 (by decide +kernel) rfl
theorem kw_710 : Cond.methodLink "TombLane$DayBook" 39 ⟨"TombLane$DayBook", "reckon", "(III)I"⟩ ∈ big := big_mem 710 (by decide +kernel) rfl
theorem kw_712 : Cond.instanceMethod ⟨"TombLane$DayBook", "reckon", "(III)I"⟩ ∈ big := big_mem 712 (by decide +kernel) rfl
theorem kw_713 : Cond.code ⟨"TombLane$DayBook", "reckon", "(III)I"⟩ prog_2_method_4_code 6 (some FieldType.int) ∈ big := big_mem 713 (by decide +kernel) rfl
theorem kw_714 : Cond.methodLink "TombLane$DayBook" 52 ⟨"java/util/ArrayList", "size", "()I"⟩ ∈ big := big_mem 714 (by decide +kernel) rfl
theorem kw_715 : Cond.methodLink "TombLane$DayBook" 58 ⟨"java/util/ArrayList", "get", "(I)Ljava/lang/Object;"⟩ ∈ big := big_mem 715 (by decide +kernel) rfl
theorem kw_716 : Cond.classLink "TombLane$DayBook" 62 "TombLane$Flake" ∈ big := big_mem 716 (by decide +kernel) rfl
theorem kw_717 : Cond.methodLinkNest "TombLane$DayBook" 64 ⟨"TombLane$Flake", "counts", "(I)Z"⟩ "TombLane" ∈ nn := nn_mem 717 (by decide +kernel) rfl
theorem kw_719 : Cond.instanceMethod ⟨"TombLane$Flake", "counts", "(I)Z"⟩ ∈ big := big_mem 719 (by decide +kernel) rfl
theorem kw_720 : Cond.code ⟨"TombLane$Flake", "counts", "(I)Z"⟩ prog_4_method_2_code 2 (some FieldType.boolean) ∈ big := big_mem 720 (by decide +kernel) rfl
theorem kw_721 : Cond.methodLink "TombLane$DayBook" 68 ⟨"TombLane$DayBook", "hearFlake", "(LTombLane$Flake;II)V"⟩ ∈ big := big_mem 721 (by decide +kernel) rfl
theorem kw_723 : Cond.instanceMethod ⟨"TombLane$DayBook", "hearFlake", "(LTombLane$Flake;II)V"⟩ ∈ big := big_mem 723 (by decide +kernel) rfl
theorem kw_724 : Cond.code ⟨"TombLane$DayBook", "hearFlake", "(LTombLane$Flake;II)V"⟩ prog_2_method_5_code 6 (none : Option FieldType) ∈ big := big_mem 724 (by decide +kernel) rfl
theorem kw_725 : Cond.classLink "TombLane$DayBook" 79 "TombLane$Line" ∈ big := big_mem 725 (by decide +kernel) rfl
theorem kw_726 : Cond.methodLinkNest "TombLane$DayBook" 81 ⟨"TombLane$Line", "isOf", "(II)Z"⟩ "TombLane" ∈ nn := nn_mem 726 (by decide +kernel) rfl
theorem kw_728 : Cond.instanceMethod ⟨"TombLane$Line", "isOf", "(II)Z"⟩ ∈ big := big_mem 728 (by decide +kernel) rfl
theorem kw_729 : Cond.code ⟨"TombLane$Line", "isOf", "(II)Z"⟩ prog_7_method_2_code 3 (some FieldType.boolean) ∈ big := big_mem 729 (by decide +kernel) rfl
theorem kw_730 : Cond.methodLink "TombLane$DayBook" 85 ⟨"TombLane$DayBook", "hearLine", "(LTombLane$Line;)V"⟩ ∈ big := big_mem 730 (by decide +kernel) rfl
theorem kw_732 : Cond.instanceMethod ⟨"TombLane$DayBook", "hearLine", "(LTombLane$Line;)V"⟩ ∈ big := big_mem 732 (by decide +kernel) rfl
theorem kw_733 : Cond.code ⟨"TombLane$DayBook", "hearLine", "(LTombLane$Line;)V"⟩ prog_2_method_6_code 3 (none : Option FieldType) ∈ big := big_mem 733 (by decide +kernel) rfl
theorem kw_734 : Cond.methodLinkNest "TombLane$DayBook" 94 ⟨"TombLane$Line", "tells", "(I)I"⟩ "TombLane" ∈ nn := nn_mem 734 (by decide +kernel) rfl
theorem kw_736 : Cond.instanceMethod ⟨"TombLane$Line", "tells", "(I)I"⟩ ∈ big := big_mem 736 (by decide +kernel) rfl
theorem kw_737 : Cond.code ⟨"TombLane$Line", "tells", "(I)I"⟩ prog_7_method_4_code 2 (some FieldType.int) ∈ big := big_mem 737 (by decide +kernel) rfl
theorem kw_738 : Cond.methodLink "TombLane$DayBook" 97 ⟨"TombLane$DayBook", "joined", "(II)I"⟩ ∈ big := big_mem 738 (by decide +kernel) rfl
theorem kw_739 : Cond.static ⟨"TombLane$DayBook", "joined", "(II)I"⟩ ∈ big := big_mem 739 (by decide +kernel) rfl
theorem kw_740 : Cond.code ⟨"TombLane$DayBook", "joined", "(II)I"⟩ prog_2_method_7_code 2 (some FieldType.int) ∈ big := big_mem 740 (by decide +kernel) rfl
theorem kw_741 : Cond.methodLink "TombLane$DayBook" 72 ⟨"TombLane$DayBook", "narrow", "(I)I"⟩ ∈ big := big_mem 741 (by decide +kernel) rfl
theorem kw_743 : Cond.instanceMethod ⟨"TombLane$DayBook", "narrow", "(I)I"⟩ ∈ big := big_mem 743 (by decide +kernel) rfl
theorem kw_744 : Cond.code ⟨"TombLane$DayBook", "narrow", "(I)I"⟩ prog_2_method_8_code 4 (some FieldType.int) ∈ big := big_mem 744 (by decide +kernel) rfl
theorem kw_745 : Cond.methodLink "TombLane$DayBook" 102 ⟨"TombLane$DayBook", "menThatAre", "(II)I"⟩ ∈ big := big_mem 745 (by decide +kernel) rfl
theorem kw_747 : Cond.instanceMethod ⟨"TombLane$DayBook", "menThatAre", "(II)I"⟩ ∈ big := big_mem 747 (by decide +kernel) rfl
theorem kw_748 : Cond.code ⟨"TombLane$DayBook", "menThatAre", "(II)I"⟩ prog_2_method_9_code 5 (some FieldType.int) ∈ big := big_mem 748 (by decide +kernel) rfl
theorem kw_749 : Cond.methodLink "TombLane$DayBook" 105 ⟨"TombLane$DayBook", "closeOpen", "(II)V"⟩ ∈ big := big_mem 749 (by decide +kernel) rfl
theorem kw_751 : Cond.instanceMethod ⟨"TombLane$DayBook", "closeOpen", "(II)V"⟩ ∈ big := big_mem 751 (by decide +kernel) rfl
theorem kw_752 : Cond.code ⟨"TombLane$DayBook", "closeOpen", "(II)V"⟩ prog_2_method_10_code 4 (none : Option FieldType) ∈ big := big_mem 752 (by decide +kernel) rfl
theorem kw_753 : Cond.methodLink "TombLaneLaw" 53 ⟨"TombLane", "wicks", "(III)I"⟩ ∈ big := big_mem 753 (by decide +kernel) rfl
theorem kw_754 : Cond.instanceMethod ⟨"TombLane", "wicks", "(III)I"⟩ ∈ big := big_mem 754 (by decide +kernel) rfl
theorem kw_755 : Cond.selects "TombLane" ⟨"TombLane", "wicks", "(III)I"⟩ ⟨"TombLane", "wicks", "(III)I"⟩ ∈ big := big_mem 755 (by decide +kernel) rfl
theorem kw_756 : Cond.code ⟨"TombLane", "wicks", "(III)I"⟩ prog_1_method_10_code 4 (some FieldType.int) ∈ big := big_mem 756 (by decide +kernel) rfl
theorem kw_757 : Cond.methodLinkNest "TombLane" 130 ⟨"TombLane$DayBook", "reckon", "(III)I"⟩ "TombLane" ∈ nn := nn_mem 757 (by decide +kernel) rfl
theorem kw_758 : Cond.methodLink "TombLaneLaw" 57 ⟨"TombLane", "span", "(IIIZ)I"⟩ ∈ big := big_mem 758 (by decide +kernel) rfl
theorem kw_759 : Cond.instanceMethod ⟨"TombLane", "span", "(IIIZ)I"⟩ ∈ big := big_mem 759 (by decide +kernel) rfl
theorem kw_760 : Cond.selects "TombLane" ⟨"TombLane", "span", "(IIIZ)I"⟩ ⟨"TombLane", "span", "(IIIZ)I"⟩ ∈ big := big_mem 760 (by decide +kernel) rfl
theorem kw_761 : Cond.code ⟨"TombLane", "span", "(IIIZ)I"⟩ prog_1_method_11_code 6 (some FieldType.int) ∈ big := big_mem 761 (by decide +kernel) rfl
theorem kw_762 : Cond.methodLinkNest "TombLane" 133 ⟨"TombLane$DayBook", "daysByState", "(III)[I"⟩ "TombLane" ∈ nn := nn_mem 762 (by decide +kernel) rfl
theorem kw_764 : Cond.instanceMethod ⟨"TombLane$DayBook", "daysByState", "(III)[I"⟩ ∈ big := big_mem 764 (by decide +kernel) rfl
theorem kw_765 : Cond.code ⟨"TombLane$DayBook", "daysByState", "(III)[I"⟩ prog_2_method_3_code 5 (some (FieldType.array FieldType.int)) ∈ big := big_mem 765 (by decide +kernel) rfl
theorem kw_766 : Cond.methodLink "TombLane$DayBook" 43 ⟨"TombLane$DayBook", "stateOf", "(III)I"⟩ ∈ big := big_mem 766 (by decide +kernel) rfl
theorem kw_767 : Cond.methodLink "TombLaneLaw" 62 ⟨"TombLane", "missed", "(IIII)I"⟩ ∈ big := big_mem 767 (by decide +kernel) rfl
theorem kw_768 : Cond.instanceMethod ⟨"TombLane", "missed", "(IIII)I"⟩ ∈ big := big_mem 768 (by decide +kernel) rfl
theorem kw_769 : Cond.selects "TombLane" ⟨"TombLane", "missed", "(IIII)I"⟩ ⟨"TombLane", "missed", "(IIII)I"⟩ ∈ big := big_mem 769 (by decide +kernel) rfl
theorem kw_770 : Cond.code ⟨"TombLane", "missed", "(IIII)I"⟩ prog_1_method_12_code 5 (some FieldType.int) ∈ big := big_mem 770 (by decide +kernel) rfl
theorem kw_771 : Cond.methodLink "TombLaneLaw" 67 ⟨"TombLane", "ration", "(II)Z"⟩ ∈ big := big_mem 771 (by decide +kernel) rfl
theorem kw_772 : Cond.instanceMethod ⟨"TombLane", "ration", "(II)Z"⟩ ∈ big := big_mem 772 (by decide +kernel) rfl
theorem kw_773 : Cond.selects "TombLane" ⟨"TombLane", "ration", "(II)Z"⟩ ⟨"TombLane", "ration", "(II)Z"⟩ ∈ big := big_mem 773 (by decide +kernel) rfl
theorem kw_774 : Cond.code ⟨"TombLane", "ration", "(II)Z"⟩ prog_1_method_13_code 3 (some FieldType.boolean) ∈ big := big_mem 774 (by decide +kernel) rfl
theorem kw_775 : Cond.methodLinkNest "TombLane" 137 ⟨"TombLane$Rations", "setSacks", "(II)Z"⟩ "TombLane" ∈ nn := nn_mem 775 (by decide +kernel) rfl
theorem kw_777 : Cond.instanceMethod ⟨"TombLane$Rations", "setSacks", "(II)Z"⟩ ∈ big := big_mem 777 (by decide +kernel) rfl
theorem kw_778 : Cond.code ⟨"TombLane$Rations", "setSacks", "(II)Z"⟩ prog_9_method_2_code 3 (some FieldType.boolean) ∈ big := big_mem 778 (by decide +kernel) rfl
theorem kw_779 : Cond.methodLink "TombLaneLaw" 72 ⟨"TombLane", "come", "(III)I"⟩ ∈ big := big_mem 779 (by decide +kernel) rfl
theorem kw_780 : Cond.instanceMethod ⟨"TombLane", "come", "(III)I"⟩ ∈ big := big_mem 780 (by decide +kernel) rfl
theorem kw_781 : Cond.selects "TombLane" ⟨"TombLane", "come", "(III)I"⟩ ⟨"TombLane", "come", "(III)I"⟩ ∈ big := big_mem 781 (by decide +kernel) rfl
theorem kw_782 : Cond.code ⟨"TombLane", "come", "(III)I"⟩ prog_1_method_14_code 4 (some FieldType.int) ∈ big := big_mem 782 (by decide +kernel) rfl
theorem kw_783 : Cond.methodLinkNest "TombLane" 140 ⟨"TombLane$Rations", "take", "(III)I"⟩ "TombLane" ∈ nn := nn_mem 783 (by decide +kernel) rfl
theorem kw_785 : Cond.instanceMethod ⟨"TombLane$Rations", "take", "(III)I"⟩ ∈ big := big_mem 785 (by decide +kernel) rfl
theorem kw_786 : Cond.code ⟨"TombLane$Rations", "take", "(III)I"⟩ prog_9_method_3_code 4 (some FieldType.int) ∈ big := big_mem 786 (by decide +kernel) rfl
theorem kw_787 : Cond.methodLink "TombLaneLaw" 76 ⟨"TombLane", "arrears", "(II)I"⟩ ∈ big := big_mem 787 (by decide +kernel) rfl
theorem kw_788 : Cond.instanceMethod ⟨"TombLane", "arrears", "(II)I"⟩ ∈ big := big_mem 788 (by decide +kernel) rfl
theorem kw_789 : Cond.selects "TombLane" ⟨"TombLane", "arrears", "(II)I"⟩ ⟨"TombLane", "arrears", "(II)I"⟩ ∈ big := big_mem 789 (by decide +kernel) rfl
theorem kw_790 : Cond.code ⟨"TombLane", "arrears", "(II)I"⟩ prog_1_method_15_code 3 (some FieldType.int) ∈ big := big_mem 790 (by decide +kernel) rfl
theorem kw_791 : Cond.constant "TombLane" 143 (-1000000 : Int32) ∈ big := big_mem 791 (by decide +kernel) rfl
theorem kw_792 : Cond.methodLinkNest "TombLane" 144 ⟨"TombLane$Rations", "owedTo", "(II)I"⟩ "TombLane" ∈ nn := nn_mem 792 (by decide +kernel) rfl
theorem kw_794 : Cond.instanceMethod ⟨"TombLane$Rations", "owedTo", "(II)I"⟩ ∈ big := big_mem 794 (by decide +kernel) rfl
theorem kw_795 : Cond.code ⟨"TombLane$Rations", "owedTo", "(II)I"⟩ prog_9_method_4_code 6 (some FieldType.int) ∈ big := big_mem 795 (by decide +kernel) rfl
theorem kw_796 : Cond.methodLink "TombLaneLaw" 81 ⟨"TombLane", "worth", "(III)Z"⟩ ∈ big := big_mem 796 (by decide +kernel) rfl
theorem kw_797 : Cond.instanceMethod ⟨"TombLane", "worth", "(III)Z"⟩ ∈ big := big_mem 797 (by decide +kernel) rfl
theorem kw_798 : Cond.selects "TombLane" ⟨"TombLane", "worth", "(III)Z"⟩ ⟨"TombLane", "worth", "(III)Z"⟩ ∈ big := big_mem 798 (by decide +kernel) rfl
theorem kw_799 : Cond.code ⟨"TombLane", "worth", "(III)Z"⟩ prog_1_method_16_code 4 (some FieldType.boolean) ∈ big := big_mem 799 (by decide +kernel) rfl
theorem kw_800 : Cond.methodLinkNest "TombLane" 148 ⟨"TombLane$Debts", "setWorth", "(III)Z"⟩ "TombLane" ∈ nn := nn_mem 800 (by decide +kernel) rfl
theorem kw_802 : Cond.instanceMethod ⟨"TombLane$Debts", "setWorth", "(III)Z"⟩ ∈ big := big_mem 802 (by decide +kernel) rfl
theorem kw_803 : Cond.code ⟨"TombLane$Debts", "setWorth", "(III)Z"⟩ prog_3_method_2_code 4 (some FieldType.boolean) ∈ big := big_mem 803 (by decide +kernel) rfl
theorem kw_804 : Cond.methodLink "TombLaneLaw" 86 ⟨"TombLane", "debt", "(IIIII)I"⟩ ∈ big := big_mem 804 (by decide +kernel) rfl
theorem kw_805 : Cond.instanceMethod ⟨"TombLane", "debt", "(IIIII)I"⟩ ∈ big := big_mem 805 (by decide +kernel) rfl
theorem kw_806 : Cond.selects "TombLane" ⟨"TombLane", "debt", "(IIIII)I"⟩ ⟨"TombLane", "debt", "(IIIII)I"⟩ ∈ big := big_mem 806 (by decide +kernel) rfl
theorem kw_807 : Cond.code ⟨"TombLane", "debt", "(IIIII)I"⟩ prog_1_method_17_code 6 (some FieldType.int) ∈ big := big_mem 807 (by decide +kernel) rfl
theorem kw_808 : Cond.methodLinkNest "TombLane" 152 ⟨"TombLane$Debts", "add", "(IIIII)I"⟩ "TombLane" ∈ nn := nn_mem 808 (by decide +kernel) rfl
theorem kw_810 : Cond.instanceMethod ⟨"TombLane$Debts", "add", "(IIIII)I"⟩ ∈ big := big_mem 810 (by decide +kernel) rfl
theorem kw_811 : Cond.code ⟨"TombLane$Debts", "add", "(IIIII)I"⟩ prog_3_method_3_code 6 (some FieldType.int) ∈ big := big_mem 811 (by decide +kernel) rfl
theorem kw_812 : Cond.methodLink "TombLaneLaw" 90 ⟨"TombLane", "pay", "(II)Z"⟩ ∈ big := big_mem 812 (by decide +kernel) rfl
theorem kw_813 : Cond.instanceMethod ⟨"TombLane", "pay", "(II)Z"⟩ ∈ big := big_mem 813 (by decide +kernel) rfl
theorem kw_814 : Cond.selects "TombLane" ⟨"TombLane", "pay", "(II)Z"⟩ ⟨"TombLane", "pay", "(II)Z"⟩ ∈ big := big_mem 814 (by decide +kernel) rfl
theorem kw_815 : Cond.code ⟨"TombLane", "pay", "(II)Z"⟩ prog_1_method_18_code 3 (some FieldType.boolean) ∈ big := big_mem 815 (by decide +kernel) rfl
theorem kw_816 : Cond.methodLinkNest "TombLane" 155 ⟨"TombLane$Debts", "setPaid", "(II)Z"⟩ "TombLane" ∈ nn := nn_mem 816 (by decide +kernel) rfl
theorem kw_818 : Cond.instanceMethod ⟨"TombLane$Debts", "setPaid", "(II)Z"⟩ ∈ big := big_mem 818 (by decide +kernel) rfl
theorem kw_819 : Cond.code ⟨"TombLane$Debts", "setPaid", "(II)Z"⟩ prog_3_method_4_code 3 (some FieldType.boolean) ∈ big := big_mem 819 (by decide +kernel) rfl
theorem kw_820 : Cond.methodLinkNest "TombLane$Debts" 40 ⟨"TombLane", "isBelow", "(II)Z"⟩ "TombLane" ∈ nn := nn_mem 820 (by decide +kernel) rfl
theorem kw_821 : Cond.methodLink "TombLaneLaw" 94 ⟨"TombLane", "balance", "(II)I"⟩ ∈ big := big_mem 821 (by decide +kernel) rfl
theorem kw_822 : Cond.instanceMethod ⟨"TombLane", "balance", "(II)I"⟩ ∈ big := big_mem 822 (by decide +kernel) rfl
theorem kw_823 : Cond.selects "TombLane" ⟨"TombLane", "balance", "(II)I"⟩ ⟨"TombLane", "balance", "(II)I"⟩ ∈ big := big_mem 823 (by decide +kernel) rfl
theorem kw_824 : Cond.code ⟨"TombLane", "balance", "(II)I"⟩ prog_1_method_19_code 3 (some FieldType.int) ∈ big := big_mem 824 (by decide +kernel) rfl
theorem kw_825 : Cond.constant "TombLane" 158 (-2000000001 : Int32) ∈ big := big_mem 825 (by decide +kernel) rfl
theorem kw_826 : Cond.methodLinkNest "TombLane" 159 ⟨"TombLane$Debts", "balancesOn", "(I)[I"⟩ "TombLane" ∈ nn := nn_mem 826 (by decide +kernel) rfl
theorem kw_828 : Cond.instanceMethod ⟨"TombLane$Debts", "balancesOn", "(I)[I"⟩ ∈ big := big_mem 828 (by decide +kernel) rfl
theorem kw_829 : Cond.code ⟨"TombLane$Debts", "balancesOn", "(I)[I"⟩ prog_3_method_5_code 4 (some (FieldType.array FieldType.int)) ∈ big := big_mem 829 (by decide +kernel) rfl
theorem kw_830 : Cond.methodLink "TombLaneLaw" 98 ⟨"TombLane", "fewest", "(I)I"⟩ ∈ big := big_mem 830 (by decide +kernel) rfl
theorem kw_831 : Cond.instanceMethod ⟨"TombLane", "fewest", "(I)I"⟩ ∈ big := big_mem 831 (by decide +kernel) rfl
theorem kw_832 : Cond.selects "TombLane" ⟨"TombLane", "fewest", "(I)I"⟩ ⟨"TombLane", "fewest", "(I)I"⟩ ∈ big := big_mem 832 (by decide +kernel) rfl
theorem kw_833 : Cond.code ⟨"TombLane", "fewest", "(I)I"⟩ prog_1_method_20_code 2 (some FieldType.int) ∈ big := big_mem 833 (by decide +kernel) rfl
theorem kw_834 : Cond.methodLinkNest "TombLane" 163 ⟨"TombLane$Settling", "payments", "([I)I"⟩ "TombLane" ∈ nn := nn_mem 834 (by decide +kernel) rfl
theorem kw_836 : Cond.instanceMethod ⟨"TombLane$Settling", "payments", "([I)I"⟩ ∈ big := big_mem 836 (by decide +kernel) rfl
theorem kw_837 : Cond.code ⟨"TombLane$Settling", "payments", "([I)I"⟩ prog_10_method_2_code 4 (some FieldType.int) ∈ big := big_mem 837 (by decide +kernel) rfl
theorem kw_838 : Cond.methodLink "TombLane$Settling" 18 ⟨"TombLane$Settling", "mostSetsAmong", "(I)I"⟩ ∈ big := big_mem 838 (by decide +kernel) rfl
theorem kw_840 : Cond.instanceMethod ⟨"TombLane$Settling", "mostSetsAmong", "(I)I"⟩ ∈ big := big_mem 840 (by decide +kernel) rfl
theorem kw_841 : Cond.code ⟨"TombLane$Settling", "mostSetsAmong", "(I)I"⟩ prog_10_method_3_code 4 (some FieldType.int) ∈ big := big_mem 841 (by decide +kernel) rfl
theorem kw_842 : Cond.methodLink "TombLane$Settling" 22 ⟨"TombLane$Settling", "mostSetsWithin", "(II)I"⟩ ∈ big := big_mem 842 (by decide +kernel) rfl
theorem kw_844 : Cond.instanceMethod ⟨"TombLane$Settling", "mostSetsWithin", "(II)I"⟩ ∈ big := big_mem 844 (by decide +kernel) rfl
theorem kw_845 : Cond.code ⟨"TombLane$Settling", "mostSetsWithin", "(II)I"⟩ prog_10_method_4_code 7 (some FieldType.int) ∈ big := big_mem 845 (by decide +kernel) rfl
theorem kw_846 : Cond.methodLink "TombLane$Settling" 26 ⟨"java/lang/Math", "max", "(II)I"⟩ ∈ big := big_mem 846 (by decide +kernel) rfl
theorem kw_847 : Cond.methodLink "TombLaneLaw" 102 ⟨"TombLane", "of", "(II)I"⟩ ∈ big := big_mem 847 (by decide +kernel) rfl
theorem kw_848 : Cond.instanceMethod ⟨"TombLane", "of", "(II)I"⟩ ∈ big := big_mem 848 (by decide +kernel) rfl
theorem kw_849 : Cond.selects "TombLane" ⟨"TombLane", "of", "(II)I"⟩ ⟨"TombLane", "of", "(II)I"⟩ ∈ big := big_mem 849 (by decide +kernel) rfl
theorem kw_850 : Cond.code ⟨"TombLane", "of", "(II)I"⟩ prog_1_method_21_code 3 (some FieldType.int) ∈ big := big_mem 850 (by decide +kernel) rfl
theorem kw_851 : Cond.methodLink "TombLane" 178 ⟨"TombLane", "lettersOf", "(J)I"⟩ ∈ big := big_mem 851 (by decide +kernel) rfl
theorem kw_852 : Cond.methodLink "TombLaneLaw" 106 ⟨"TombLane", "about", "(I)I"⟩ ∈ big := big_mem 852 (by decide +kernel) rfl
theorem kw_853 : Cond.instanceMethod ⟨"TombLane", "about", "(I)I"⟩ ∈ big := big_mem 853 (by decide +kernel) rfl
theorem kw_854 : Cond.selects "TombLane" ⟨"TombLane", "about", "(I)I"⟩ ⟨"TombLane", "about", "(I)I"⟩ ∈ big := big_mem 854 (by decide +kernel) rfl
theorem kw_855 : Cond.code ⟨"TombLane", "about", "(I)I"⟩ prog_1_method_22_code 2 (some FieldType.int) ∈ big := big_mem 855 (by decide +kernel) rfl
theorem kw_856 : Cond.methodLinkNest "TombLane" 185 ⟨"TombLane$Flakes", "count", "()I"⟩ "TombLane" ∈ nn := nn_mem 856 (by decide +kernel) rfl
theorem kw_858 : Cond.instanceMethod ⟨"TombLane$Flakes", "count", "()I"⟩ ∈ big := big_mem 858 (by decide +kernel) rfl
theorem kw_859 : Cond.code ⟨"TombLane$Flakes", "count", "()I"⟩ prog_6_method_2_code 1 (some FieldType.int) ∈ big := big_mem 859 (by decide +kernel) rfl
theorem kw_860 : Cond.methodLinkNest "TombLane" 190 ⟨"TombLane$Flakes", "linesOf", "(I)I"⟩ "TombLane" ∈ nn := nn_mem 860 (by decide +kernel) rfl
theorem kw_862 : Cond.instanceMethod ⟨"TombLane$Flakes", "linesOf", "(I)I"⟩ ∈ big := big_mem 862 (by decide +kernel) rfl
theorem kw_863 : Cond.code ⟨"TombLane$Flakes", "linesOf", "(I)I"⟩ prog_6_method_6_code 2 (some FieldType.int) ∈ big := big_mem 863 (by decide +kernel) rfl
theorem kw_864 : Cond.methodLink "TombLaneLaw" 19 ⟨"TombLaneModel", "man", "(JII)I"⟩ ∈ big := big_mem 864 (by decide +kernel) rfl
theorem kw_865 : Cond.instanceMethod ⟨"TombLaneModel", "man", "(JII)I"⟩ ∈ big := big_mem 865 (by decide +kernel) rfl
theorem kw_866 : Cond.selects "TombLaneModel" ⟨"TombLaneModel", "man", "(JII)I"⟩ ⟨"TombLaneModel", "man", "(JII)I"⟩ ∈ big := big_mem 866 (by decide +kernel) rfl
theorem kw_867 : Cond.code ⟨"TombLaneModel", "man", "(JII)I"⟩ prog_14_method_9_code 5 (some FieldType.int) ∈ big := big_mem 867 (by decide +kernel) rfl
theorem kw_868 : Cond.methodLink "TombLaneModel" 46 ⟨"TombLaneModel", "isName", "(J)Z"⟩ ∈ big := big_mem 868 (by decide +kernel) rfl
theorem kw_869 : Cond.static ⟨"TombLaneModel", "isName", "(J)Z"⟩ ∈ big := big_mem 869 (by decide +kernel) rfl
theorem kw_870 : Cond.code ⟨"TombLaneModel", "isName", "(J)Z"⟩ prog_14_method_7_code 3 (some FieldType.boolean) ∈ big := big_mem 870 (by decide +kernel) rfl
theorem kw_871 : Cond.methodLink "TombLaneModel" 29 ⟨"TombLaneModel", "lettersOf", "(J)I"⟩ ∈ big := big_mem 871 (by decide +kernel) rfl
theorem kw_872 : Cond.static ⟨"TombLaneModel", "lettersOf", "(J)I"⟩ ∈ big := big_mem 872 (by decide +kernel) rfl
theorem kw_873 : Cond.code ⟨"TombLaneModel", "lettersOf", "(J)I"⟩ prog_14_method_6_code 3 (some FieldType.int) ∈ big := big_mem 873 (by decide +kernel) rfl
theorem kw_874 : Cond.constantLong "TombLaneModel" 32 (255 : Int64) ∈ big := big_mem 874 (by decide +kernel) rfl
theorem kw_875 : Cond.methodLink "TombLaneModel" 34 ⟨"TombLaneModel", "isLetter", "(I)Z"⟩ ∈ big := big_mem 875 (by decide +kernel) rfl
theorem kw_876 : Cond.static ⟨"TombLaneModel", "isLetter", "(I)Z"⟩ ∈ big := big_mem 876 (by decide +kernel) rfl
theorem kw_877 : Cond.code ⟨"TombLaneModel", "isLetter", "(I)Z"⟩ prog_14_method_2_code 1 (some FieldType.boolean) ∈ big := big_mem 877 (by decide +kernel) rfl
theorem kw_878 : Cond.methodLink "TombLaneModel" 38 ⟨"TombLaneModel", "isKept", "(J)Z"⟩ ∈ big := big_mem 878 (by decide +kernel) rfl
theorem kw_879 : Cond.static ⟨"TombLaneModel", "isKept", "(J)Z"⟩ ∈ big := big_mem 879 (by decide +kernel) rfl
theorem kw_880 : Cond.code ⟨"TombLaneModel", "isKept", "(J)Z"⟩ prog_14_method_5_code 2 (some FieldType.boolean) ∈ big := big_mem 880 (by decide +kernel) rfl
theorem kw_881 : Cond.methodLink "TombLaneModel" 17 ⟨"TombLaneModel", "reasonOf", "(J)I"⟩ ∈ big := big_mem 881 (by decide +kernel) rfl
theorem kw_882 : Cond.static ⟨"TombLaneModel", "reasonOf", "(J)I"⟩ ∈ big := big_mem 882 (by decide +kernel) rfl
theorem kw_883 : Cond.code ⟨"TombLaneModel", "reasonOf", "(J)I"⟩ prog_14_method_4_code 2 (some FieldType.int) ∈ big := big_mem 883 (by decide +kernel) rfl
theorem kw_884 : Cond.constantLong "TombLaneModel" 7 (2003792491 : Int64) ∈ big := big_mem 884 (by decide +kernel) rfl
theorem kw_885 : Cond.constantLong "TombLaneModel" 9 (6909036 : Int64) ∈ big := big_mem 885 (by decide +kernel) rfl
theorem kw_886 : Cond.constantLong "TombLaneModel" 11 (439787549556 : Int64) ∈ big := big_mem 886 (by decide +kernel) rfl
theorem kw_887 : Cond.constantLong "TombLaneModel" 13 (1635213689 : Int64) ∈ big := big_mem 887 (by decide +kernel) rfl
theorem kw_888 : Cond.constantLong "TombLaneModel" 15 (431417028203 : Int64) ∈ big := big_mem 888 (by decide +kernel) rfl
theorem kw_889 : Cond.constantLong "TombLaneModel" 21 (6578553 : Int64) ∈ big := big_mem 889 (by decide +kernel) rfl
theorem kw_890 : Cond.constantLong "TombLaneModel" 23 (1818584692 : Int64) ∈ big := big_mem 890 (by decide +kernel) rfl
theorem kw_891 : Cond.constantLong "TombLaneModel" 25 (491394656372 : Int64) ∈ big := big_mem 891 (by decide +kernel) rfl
theorem kw_892 : Cond.constantLong "TombLaneModel" 27 (512869231475 : Int64) ∈ big := big_mem 892 (by decide +kernel) rfl
theorem kw_893 : Cond.methodLink "TombLaneModel" 49 ⟨"TombLaneModel", "manOf", "(J)I"⟩ ∈ big := big_mem 893 (by decide +kernel) rfl
theorem kw_895 : Cond.instanceMethod ⟨"TombLaneModel", "manOf", "(J)I"⟩ ∈ big := big_mem 895 (by decide +kernel) rfl
theorem kw_896 : Cond.instantiable "TombLaneModel" 42 ∈ big := big_mem 896 (by decide +kernel) rfl
theorem kw_897 : Cond.code ⟨"TombLaneModel", "manOf", "(J)I"⟩ prog_14_method_8_code 4 (some FieldType.int) ∈ big := big_mem 897 (by decide +kernel) rfl
theorem kw_898 : Cond.methodLink "TombLaneLaw" 105 ⟨"TombLaneModel", "of", "(II)I"⟩ ∈ big := big_mem 898 (by decide +kernel) rfl
theorem kw_899 : Cond.instanceMethod ⟨"TombLaneModel", "of", "(II)I"⟩ ∈ big := big_mem 899 (by decide +kernel) rfl
theorem kw_900 : Cond.selects "TombLaneModel" ⟨"TombLaneModel", "of", "(II)I"⟩ ⟨"TombLaneModel", "of", "(II)I"⟩ ∈ big := big_mem 900 (by decide +kernel) rfl
theorem kw_901 : Cond.code ⟨"TombLaneModel", "of", "(II)I"⟩ prog_14_method_10_code 3 (some FieldType.int) ∈ big := big_mem 901 (by decide +kernel) rfl
theorem kw_902 : Cond.methodLink "TombLaneModel" 59 ⟨"TombLaneModel", "isMan", "(I)Z"⟩ ∈ big := big_mem 902 (by decide +kernel) rfl
theorem kw_904 : Cond.instanceMethod ⟨"TombLaneModel", "isMan", "(I)Z"⟩ ∈ big := big_mem 904 (by decide +kernel) rfl
theorem kw_905 : Cond.code ⟨"TombLaneModel", "isMan", "(I)Z"⟩ prog_14_method_1_code 2 (some FieldType.boolean) ∈ big := big_mem 905 (by decide +kernel) rfl
theorem kw_906 : Cond.methodLink "TombLaneLaw" 34 ⟨"TombLaneModel", "flake", "()I"⟩ ∈ big := big_mem 906 (by decide +kernel) rfl
theorem kw_907 : Cond.instanceMethod ⟨"TombLaneModel", "flake", "()I"⟩ ∈ big := big_mem 907 (by decide +kernel) rfl
theorem kw_908 : Cond.selects "TombLaneModel" ⟨"TombLaneModel", "flake", "()I"⟩ ⟨"TombLaneModel", "flake", "()I"⟩ ∈ big := big_mem 908 (by decide +kernel) rfl
theorem kw_909 : Cond.code ⟨"TombLaneModel", "flake", "()I"⟩ prog_14_method_19_code 2 (some FieldType.int) ∈ big := big_mem 909 (by decide +kernel) rfl
theorem kw_910 : Cond.methodLink "TombLaneModel" 106 ⟨"TombLaneModel", "next", "()V"⟩ ∈ big := big_mem 910 (by decide +kernel) rfl
theorem kw_912 : Cond.instanceMethod ⟨"TombLaneModel", "next", "()V"⟩ ∈ big := big_mem 912 (by decide +kernel) rfl
theorem kw_913 : Cond.code ⟨"TombLaneModel", "next", "()V"⟩ prog_14_method_14_code 3 (none : Option FieldType) ∈ big := big_mem 913 (by decide +kernel) rfl
theorem kw_914 : Cond.methodLink "TombLaneModel" 81 ⟨"TombLaneModel", "sign", "(I)I"⟩ ∈ big := big_mem 914 (by decide +kernel) rfl
theorem kw_916 : Cond.instanceMethod ⟨"TombLaneModel", "sign", "(I)I"⟩ ∈ big := big_mem 916 (by decide +kernel) rfl
theorem kw_917 : Cond.code ⟨"TombLaneModel", "sign", "(I)I"⟩ prog_14_method_11_code 2 (some FieldType.int) ∈ big := big_mem 917 (by decide +kernel) rfl
theorem kw_918 : Cond.methodLink "TombLaneModel" 92 ⟨"TombLaneModel", "isDigit", "(I)Z"⟩ ∈ big := big_mem 918 (by decide +kernel) rfl
theorem kw_919 : Cond.static ⟨"TombLaneModel", "isDigit", "(I)Z"⟩ ∈ big := big_mem 919 (by decide +kernel) rfl
theorem kw_920 : Cond.code ⟨"TombLaneModel", "isDigit", "(I)Z"⟩ prog_14_method_3_code 1 (some FieldType.boolean) ∈ big := big_mem 920 (by decide +kernel) rfl
theorem kw_921 : Cond.methodLink "TombLaneModel" 102 ⟨"TombLaneModel", "isGood", "()Z"⟩ ∈ big := big_mem 921 (by decide +kernel) rfl
theorem kw_923 : Cond.instanceMethod ⟨"TombLaneModel", "isGood", "()Z"⟩ ∈ big := big_mem 923 (by decide +kernel) rfl
theorem kw_924 : Cond.code ⟨"TombLaneModel", "isGood", "()Z"⟩ prog_14_method_13_code 1 (some FieldType.boolean) ∈ big := big_mem 924 (by decide +kernel) rfl
theorem kw_925 : Cond.methodLink "TombLaneModel" 125 ⟨"TombLaneModel", "readLine", "()V"⟩ ∈ big := big_mem 925 (by decide +kernel) rfl
theorem kw_927 : Cond.instanceMethod ⟨"TombLaneModel", "readLine", "()V"⟩ ∈ big := big_mem 927 (by decide +kernel) rfl
theorem kw_928 : Cond.code ⟨"TombLaneModel", "readLine", "()V"⟩ prog_14_method_20_code 3 (none : Option FieldType) ∈ big := big_mem 928 (by decide +kernel) rfl
theorem kw_929 : Cond.methodLink "TombLaneModel" 137 ⟨"TombLaneModel", "isWord", "(J)Z"⟩ ∈ big := big_mem 929 (by decide +kernel) rfl
theorem kw_931 : Cond.instanceMethod ⟨"TombLaneModel", "isWord", "(J)Z"⟩ ∈ big := big_mem 931 (by decide +kernel) rfl
theorem kw_932 : Cond.code ⟨"TombLaneModel", "isWord", "(J)Z"⟩ prog_14_method_16_code 3 (some FieldType.boolean) ∈ big := big_mem 932 (by decide +kernel) rfl
theorem kw_933 : Cond.methodLink "TombLaneModel" 110 ⟨"TombLaneModel", "wrong", "()V"⟩ ∈ big := big_mem 933 (by decide +kernel) rfl
theorem kw_935 : Cond.instanceMethod ⟨"TombLaneModel", "wrong", "()V"⟩ ∈ big := big_mem 935 (by decide +kernel) rfl
theorem kw_936 : Cond.code ⟨"TombLaneModel", "wrong", "()V"⟩ prog_14_method_17_code 1 (none : Option FieldType) ∈ big := big_mem 936 (by decide +kernel) rfl
theorem kw_937 : Cond.methodLink "TombLaneModel" 98 ⟨"TombLaneModel", "fails", "(II)V"⟩ ∈ big := big_mem 937 (by decide +kernel) rfl
theorem kw_939 : Cond.instanceMethod ⟨"TombLaneModel", "fails", "(II)V"⟩ ∈ big := big_mem 939 (by decide +kernel) rfl
theorem kw_940 : Cond.code ⟨"TombLaneModel", "fails", "(II)V"⟩ prog_14_method_12_code 3 (none : Option FieldType) ∈ big := big_mem 940 (by decide +kernel) rfl
theorem kw_941 : Cond.methodLink "TombLaneModel" 143 ⟨"TombLaneModel", "must", "(Z)V"⟩ ∈ big := big_mem 941 (by decide +kernel) rfl
theorem kw_943 : Cond.instanceMethod ⟨"TombLaneModel", "must", "(Z)V"⟩ ∈ big := big_mem 943 (by decide +kernel) rfl
theorem kw_944 : Cond.code ⟨"TombLaneModel", "must", "(Z)V"⟩ prog_14_method_18_code 2 (none : Option FieldType) ∈ big := big_mem 944 (by decide +kernel) rfl
theorem kw_945 : Cond.methodLink "TombLaneModel" 150 ⟨"TombLaneModel", "is", "(I)Z"⟩ ∈ big := big_mem 945 (by decide +kernel) rfl
theorem kw_947 : Cond.instanceMethod ⟨"TombLaneModel", "is", "(I)Z"⟩ ∈ big := big_mem 947 (by decide +kernel) rfl
theorem kw_948 : Cond.code ⟨"TombLaneModel", "is", "(I)Z"⟩ prog_14_method_15_code 2 (some FieldType.boolean) ∈ big := big_mem 948 (by decide +kernel) rfl
theorem kw_949 : Cond.methodLink "TombLaneModel" 163 ⟨"TombLaneModel", "readEntry", "(I)V"⟩ ∈ big := big_mem 949 (by decide +kernel) rfl
theorem kw_951 : Cond.instanceMethod ⟨"TombLaneModel", "readEntry", "(I)V"⟩ ∈ big := big_mem 951 (by decide +kernel) rfl
theorem kw_952 : Cond.code ⟨"TombLaneModel", "readEntry", "(I)V"⟩ prog_14_method_21_code 4 (none : Option FieldType) ∈ big := big_mem 952 (by decide +kernel) rfl
theorem kw_953 : Cond.methodLink "TombLaneModel" 167 ⟨"TombLaneModel", "readWicks", "(I)V"⟩ ∈ big := big_mem 953 (by decide +kernel) rfl
theorem kw_955 : Cond.instanceMethod ⟨"TombLaneModel", "readWicks", "(I)V"⟩ ∈ big := big_mem 955 (by decide +kernel) rfl
theorem kw_956 : Cond.code ⟨"TombLaneModel", "readWicks", "(I)V"⟩ prog_14_method_22_code 2 (none : Option FieldType) ∈ big := big_mem 956 (by decide +kernel) rfl
theorem kw_957 : Cond.methodLink "TombLaneLaw" 38 ⟨"TombLaneModel", "fault", "(I)I"⟩ ∈ big := big_mem 957 (by decide +kernel) rfl
theorem kw_958 : Cond.instanceMethod ⟨"TombLaneModel", "fault", "(I)I"⟩ ∈ big := big_mem 958 (by decide +kernel) rfl
theorem kw_959 : Cond.selects "TombLaneModel" ⟨"TombLaneModel", "fault", "(I)I"⟩ ⟨"TombLaneModel", "fault", "(I)I"⟩ ∈ big := big_mem 959 (by decide +kernel) rfl
theorem kw_960 : Cond.code ⟨"TombLaneModel", "fault", "(I)I"⟩ prog_14_method_23_code 2 (some FieldType.int) ∈ big := big_mem 960 (by decide +kernel) rfl
theorem kw_961 : Cond.methodLink "TombLaneLaw" 43 ⟨"TombLaneModel", "giveUp", "(I)Z"⟩ ∈ big := big_mem 961 (by decide +kernel) rfl
theorem kw_962 : Cond.instanceMethod ⟨"TombLaneModel", "giveUp", "(I)Z"⟩ ∈ big := big_mem 962 (by decide +kernel) rfl
theorem kw_963 : Cond.selects "TombLaneModel" ⟨"TombLaneModel", "giveUp", "(I)Z"⟩ ⟨"TombLaneModel", "giveUp", "(I)Z"⟩ ∈ big := big_mem 963 (by decide +kernel) rfl
theorem kw_964 : Cond.code ⟨"TombLaneModel", "giveUp", "(I)Z"⟩ prog_14_method_24_code 2 (some FieldType.boolean) ∈ big := big_mem 964 (by decide +kernel) rfl
theorem kw_965 : Cond.methodLink "TombLaneLaw" 47 ⟨"TombLaneModel", "later", "(I)I"⟩ ∈ big := big_mem 965 (by decide +kernel) rfl
theorem kw_966 : Cond.instanceMethod ⟨"TombLaneModel", "later", "(I)I"⟩ ∈ big := big_mem 966 (by decide +kernel) rfl
theorem kw_967 : Cond.selects "TombLaneModel" ⟨"TombLaneModel", "later", "(I)I"⟩ ⟨"TombLaneModel", "later", "(I)I"⟩ ∈ big := big_mem 967 (by decide +kernel) rfl
theorem kw_968 : Cond.code ⟨"TombLaneModel", "later", "(I)I"⟩ prog_14_method_25_code 2 (some FieldType.int) ∈ big := big_mem 968 (by decide +kernel) rfl
theorem kw_969 : Cond.constant "TombLaneModel" 170 (100000 : Int32) ∈ big := big_mem 969 (by decide +kernel) rfl
theorem kw_970 : Cond.methodLink "TombLaneLaw" 52 ⟨"TombLaneModel", "day", "(III)I"⟩ ∈ big := big_mem 970 (by decide +kernel) rfl
theorem kw_971 : Cond.instanceMethod ⟨"TombLaneModel", "day", "(III)I"⟩ ∈ big := big_mem 971 (by decide +kernel) rfl
theorem kw_972 : Cond.selects "TombLaneModel" ⟨"TombLaneModel", "day", "(III)I"⟩ ⟨"TombLaneModel", "day", "(III)I"⟩ ∈ big := big_mem 972 (by decide +kernel) rfl
theorem kw_973 : Cond.code ⟨"TombLaneModel", "day", "(III)I"⟩ prog_14_method_33_code 4 (some FieldType.int) ∈ big := big_mem 973 (by decide +kernel) rfl
theorem kw_974 : Cond.methodLink "TombLaneModel" 195 ⟨"TombLaneModel", "isDay", "(I)Z"⟩ ∈ big := big_mem 974 (by decide +kernel) rfl
theorem kw_975 : Cond.static ⟨"TombLaneModel", "isDay", "(I)Z"⟩ ∈ big := big_mem 975 (by decide +kernel) rfl
theorem kw_976 : Cond.code ⟨"TombLaneModel", "isDay", "(I)Z"⟩ prog_14_method_31_code 1 (some FieldType.boolean) ∈ big := big_mem 976 (by decide +kernel) rfl
theorem kw_977 : Cond.methodLink "TombLaneModel" 198 ⟨"TombLaneModel", "dayOf", "(III)I"⟩ ∈ big := big_mem 977 (by decide +kernel) rfl
theorem kw_979 : Cond.instanceMethod ⟨"TombLaneModel", "dayOf", "(III)I"⟩ ∈ big := big_mem 979 (by decide +kernel) rfl
theorem kw_980 : Cond.code ⟨"TombLaneModel", "dayOf", "(III)I"⟩ prog_14_method_32_code 4 (some FieldType.int) ∈ big := big_mem 980 (by decide +kernel) rfl
theorem kw_981 : Cond.methodLink "TombLaneModel" 191 ⟨"TombLaneModel", "tellDay", "(III)V"⟩ ∈ big := big_mem 981 (by decide +kernel) rfl
theorem kw_983 : Cond.instanceMethod ⟨"TombLaneModel", "tellDay", "(III)V"⟩ ∈ big := big_mem 983 (by decide +kernel) rfl
theorem kw_984 : Cond.code ⟨"TombLaneModel", "tellDay", "(III)V"⟩ prog_14_method_28_code 9 (none : Option FieldType) ∈ big := big_mem 984 (by decide +kernel) rfl
theorem kw_985 : Cond.methodLink "TombLaneModel" 174 ⟨"TombLaneModel", "counts", "(II)Z"⟩ ∈ big := big_mem 985 (by decide +kernel) rfl
theorem kw_987 : Cond.instanceMethod ⟨"TombLaneModel", "counts", "(II)Z"⟩ ∈ big := big_mem 987 (by decide +kernel) rfl
theorem kw_988 : Cond.code ⟨"TombLaneModel", "counts", "(II)Z"⟩ prog_14_method_26_code 3 (some FieldType.boolean) ∈ big := big_mem 988 (by decide +kernel) rfl
theorem kw_989 : Cond.methodLink "TombLaneModel" 178 ⟨"TombLaneModel", "saysOf", "(II)I"⟩ ∈ big := big_mem 989 (by decide +kernel) rfl
theorem kw_991 : Cond.instanceMethod ⟨"TombLaneModel", "saysOf", "(II)I"⟩ ∈ big := big_mem 991 (by decide +kernel) rfl
theorem kw_992 : Cond.code ⟨"TombLaneModel", "saysOf", "(II)I"⟩ prog_14_method_27_code 4 (some FieldType.int) ∈ big := big_mem 992 (by decide +kernel) rfl
theorem kw_993 : Cond.methodLink "TombLaneModel" 182 ⟨"TombLaneModel", "joined", "(II)I"⟩ ∈ big := big_mem 993 (by decide +kernel) rfl
theorem kw_994 : Cond.static ⟨"TombLaneModel", "joined", "(II)I"⟩ ∈ big := big_mem 994 (by decide +kernel) rfl
theorem kw_995 : Cond.code ⟨"TombLaneModel", "joined", "(II)I"⟩ prog_14_method_29_code 2 (some FieldType.int) ∈ big := big_mem 995 (by decide +kernel) rfl
theorem kw_996 : Cond.methodLink "TombLaneModel" 185 ⟨"TombLaneModel", "burn", "(II)I"⟩ ∈ big := big_mem 996 (by decide +kernel) rfl
theorem kw_998 : Cond.instanceMethod ⟨"TombLaneModel", "burn", "(II)I"⟩ ∈ big := big_mem 998 (by decide +kernel) rfl
theorem kw_999 : Cond.code ⟨"TombLaneModel", "burn", "(II)I"⟩ prog_14_method_30_code 6 (some FieldType.int) ∈ big := big_mem 999 (by decide +kernel) rfl
theorem kw_1000 : Cond.methodLink "TombLaneLaw" 56 ⟨"TombLaneModel", "wicks", "(III)I"⟩ ∈ big := big_mem 1000 (by decide +kernel) rfl
theorem kw_1001 : Cond.instanceMethod ⟨"TombLaneModel", "wicks", "(III)I"⟩ ∈ big := big_mem 1001 (by decide +kernel) rfl
theorem kw_1002 : Cond.selects "TombLaneModel" ⟨"TombLaneModel", "wicks", "(III)I"⟩ ⟨"TombLaneModel", "wicks", "(III)I"⟩ ∈ big := big_mem 1002 (by decide +kernel) rfl
theorem kw_1003 : Cond.code ⟨"TombLaneModel", "wicks", "(III)I"⟩ prog_14_method_34_code 4 (some FieldType.int) ∈ big := big_mem 1003 (by decide +kernel) rfl
theorem kw_1004 : Cond.methodLink "TombLaneLaw" 61 ⟨"TombLaneModel", "span", "(IIIZ)I"⟩ ∈ big := big_mem 1004 (by decide +kernel) rfl
theorem kw_1005 : Cond.instanceMethod ⟨"TombLaneModel", "span", "(IIIZ)I"⟩ ∈ big := big_mem 1005 (by decide +kernel) rfl
theorem kw_1006 : Cond.selects "TombLaneModel" ⟨"TombLaneModel", "span", "(IIIZ)I"⟩ ⟨"TombLaneModel", "span", "(IIIZ)I"⟩ ∈ big := big_mem 1006 (by decide +kernel) rfl
theorem kw_1007 : Cond.code ⟨"TombLaneModel", "span", "(IIIZ)I"⟩ prog_14_method_36_code 8 (some FieldType.int) ∈ big := big_mem 1007 (by decide +kernel) rfl
theorem kw_1008 : Cond.methodLink "TombLaneModel" 202 ⟨"TombLaneModel", "isMonth", "(I)Z"⟩ ∈ big := big_mem 1008 (by decide +kernel) rfl
theorem kw_1009 : Cond.static ⟨"TombLaneModel", "isMonth", "(I)Z"⟩ ∈ big := big_mem 1009 (by decide +kernel) rfl
theorem kw_1010 : Cond.code ⟨"TombLaneModel", "isMonth", "(I)Z"⟩ prog_14_method_35_code 1 (some FieldType.boolean) ∈ big := big_mem 1010 (by decide +kernel) rfl
theorem kw_1011 : Cond.methodLink "TombLaneLaw" 66 ⟨"TombLaneModel", "missed", "(IIII)I"⟩ ∈ big := big_mem 1011 (by decide +kernel) rfl
theorem kw_1012 : Cond.instanceMethod ⟨"TombLaneModel", "missed", "(IIII)I"⟩ ∈ big := big_mem 1012 (by decide +kernel) rfl
theorem kw_1013 : Cond.selects "TombLaneModel" ⟨"TombLaneModel", "missed", "(IIII)I"⟩ ⟨"TombLaneModel", "missed", "(IIII)I"⟩ ∈ big := big_mem 1013 (by decide +kernel) rfl
theorem kw_1014 : Cond.code ⟨"TombLaneModel", "missed", "(IIII)I"⟩ prog_14_method_37_code 7 (some FieldType.int) ∈ big := big_mem 1014 (by decide +kernel) rfl
theorem kw_1015 : Cond.classLink "TombLaneLaw" 10 "TombLaneModel" ∈ big := big_mem 1015 (by decide +kernel) rfl
theorem kw_1016 : Cond.methodLink "TombLaneLaw" 12 ⟨"TombLaneModel", "<init>", "()V"⟩ ∈ big := big_mem 1016 (by decide +kernel) rfl
theorem kw_1017 : Cond.instanceMethod ⟨"TombLaneModel", "<init>", "()V"⟩ ∈ big := big_mem 1017 (by decide +kernel) rfl
theorem kw_1018 : Cond.code ⟨"TombLaneModel", "<init>", "()V"⟩ prog_14_method_38_code 2 (none : Option FieldType) ∈ big := big_mem 1018 (by decide +kernel) rfl
theorem kw_1019 : Cond.methodLink "TombLaneModel" 205 ⟨"java/lang/Object", "<init>", "()V"⟩ ∈ big := big_mem 1019 (by decide +kernel) rfl
theorem kw_1020 : Cond.fieldLink "TombLaneModel" 42 "TombLaneModel" "names" "[J" ∈ big := big_mem 1020 (by decide +kernel) rfl
theorem kw_1021 : Cond.fieldLink "TombLaneModel" 52 "TombLaneModel" "sides" "[I" ∈ big := big_mem 1021 (by decide +kernel) rfl
theorem kw_1022 : Cond.fieldLink "TombLaneModel" 56 "TombLaneModel" "ranks" "[I" ∈ big := big_mem 1022 (by decide +kernel) rfl
theorem kw_1023 : Cond.fieldLink "TombLaneModel" 1 "TombLaneModel" "men" "I" ∈ big := big_mem 1023 (by decide +kernel) rfl
theorem kw_1024 : Cond.fieldLink "TombLaneModel" 131 "TombLaneModel" "date" "I" ∈ big := big_mem 1024 (by decide +kernel) rfl
theorem kw_1025 : Cond.fieldLink "TombLaneModel" 119 "TombLaneModel" "tape" "[B" ∈ big := big_mem 1025 (by decide +kernel) rfl
theorem kw_1026 : Cond.fieldLink "TombLaneModel" 65 "TombLaneModel" "text" "[B" ∈ big := big_mem 1026 (by decide +kernel) rfl
theorem kw_1027 : Cond.fieldLink "TombLaneModel" 116 "TombLaneModel" "taped" "I" ∈ big := big_mem 1027 (by decide +kernel) rfl
theorem kw_1028 : Cond.fieldLink "TombLaneModel" 62 "TombLaneModel" "size" "I" ∈ big := big_mem 1028 (by decide +kernel) rfl
theorem kw_1029 : Cond.fieldLink "TombLaneModel" 69 "TombLaneModel" "faultKind" "I" ∈ big := big_mem 1029 (by decide +kernel) rfl
theorem kw_1030 : Cond.fieldLink "TombLaneModel" 72 "TombLaneModel" "faultPlace" "I" ∈ big := big_mem 1030 (by decide +kernel) rfl
theorem kw_1031 : Cond.fieldLink "TombLaneModel" 78 "TombLaneModel" "at" "I" ∈ big := big_mem 1031 (by decide +kernel) rfl
theorem kw_1032 : Cond.fieldLink "TombLaneModel" 75 "TombLaneModel" "end" "I" ∈ big := big_mem 1032 (by decide +kernel) rfl
theorem kw_1033 : Cond.fieldLink "TombLaneModel" 85 "TombLaneModel" "token" "I" ∈ big := big_mem 1033 (by decide +kernel) rfl
theorem kw_1034 : Cond.fieldLink "TombLaneModel" 95 "TombLaneModel" "number" "I" ∈ big := big_mem 1034 (by decide +kernel) rfl
theorem kw_1035 : Cond.fieldLink "TombLaneModel" 88 "TombLaneModel" "name" "J" ∈ big := big_mem 1035 (by decide +kernel) rfl
theorem kw_1036 : Cond.fieldLink "TombLaneModel" 122 "TombLaneModel" "lineMany" "[I" ∈ big := big_mem 1036 (by decide +kernel) rfl
theorem kw_1037 : Cond.fieldLink "TombLaneModel" 140 "TombLaneModel" "lDay" "[I" ∈ big := big_mem 1037 (by decide +kernel) rfl
theorem kw_1038 : Cond.fieldLink "TombLaneModel" 147 "TombLaneModel" "lSide" "[I" ∈ big := big_mem 1038 (by decide +kernel) rfl
theorem kw_1039 : Cond.fieldLink "TombLaneModel" 160 "TombLaneModel" "lWicks" "[I" ∈ big := big_mem 1039 (by decide +kernel) rfl
theorem kw_1040 : Cond.fieldLink "TombLaneModel" 153 "TombLaneModel" "says" "[I" ∈ big := big_mem 1040 (by decide +kernel) rfl
theorem kw_1041 : Cond.fieldLink "TombLaneModel" 128 "TombLaneModel" "found" "[I" ∈ big := big_mem 1041 (by decide +kernel) rfl
theorem kw_1042 : Cond.fieldLink "TombLaneModel" 134 "TombLaneModel" "given" "[I" ∈ big := big_mem 1042 (by decide +kernel) rfl
theorem kw_1043 : Cond.fieldLink "TombLaneModel" 156 "TombLaneModel" "hasGap" "[Z" ∈ big := big_mem 1043 (by decide +kernel) rfl
theorem kw_1044 : Cond.fieldLink "TombLaneModel" 113 "TombLaneModel" "flakes" "I" ∈ big := big_mem 1044 (by decide +kernel) rfl
theorem kw_1045 : Cond.fieldLink "TombLaneModel" 171 "TombLaneModel" "did" "[I" ∈ big := big_mem 1045 (by decide +kernel) rfl
theorem kw_1046 : Cond.fieldLink "TombLaneModel" 188 "TombLaneModel" "wicksAre" "I" ∈ big := big_mem 1046 (by decide +kernel) rfl
theorem kw_1047 : Cond.fieldLink "TombLaneModel" 210 "TombLaneModel" "sacksOf" "[I" ∈ big := big_mem 1047 (by decide +kernel) rfl
theorem kw_1048 : Cond.fieldLink "TombLaneModel" 213 "TombLaneModel" "cMan" "[I" ∈ big := big_mem 1048 (by decide +kernel) rfl
theorem kw_1049 : Cond.fieldLink "TombLaneModel" 216 "TombLaneModel" "cDay" "[I" ∈ big := big_mem 1049 (by decide +kernel) rfl
theorem kw_1050 : Cond.fieldLink "TombLaneModel" 219 "TombLaneModel" "cSacks" "[I" ∈ big := big_mem 1050 (by decide +kernel) rfl
theorem kw_1051 : Cond.fieldLink "TombLaneModel" 222 "TombLaneModel" "worths" "[I" ∈ big := big_mem 1051 (by decide +kernel) rfl
theorem kw_1052 : Cond.fieldLink "TombLaneModel" 249 "TombLaneModel" "comes" "I" ∈ big := big_mem 1052 (by decide +kernel) rfl
theorem kw_1053 : Cond.fieldLink "TombLaneModel" 225 "TombLaneModel" "dBy" "[I" ∈ big := big_mem 1053 (by decide +kernel) rfl
theorem kw_1054 : Cond.fieldLink "TombLaneModel" 228 "TombLaneModel" "dTo" "[I" ∈ big := big_mem 1054 (by decide +kernel) rfl
theorem kw_1055 : Cond.fieldLink "TombLaneModel" 231 "TombLaneModel" "dGood" "[I" ∈ big := big_mem 1055 (by decide +kernel) rfl
theorem kw_1056 : Cond.fieldLink "TombLaneModel" 234 "TombLaneModel" "dMany" "[I" ∈ big := big_mem 1056 (by decide +kernel) rfl
theorem kw_1057 : Cond.fieldLink "TombLaneModel" 237 "TombLaneModel" "dDay" "[I" ∈ big := big_mem 1057 (by decide +kernel) rfl
theorem kw_1058 : Cond.fieldLink "TombLaneModel" 240 "TombLaneModel" "dPaid" "[I" ∈ big := big_mem 1058 (by decide +kernel) rfl
theorem kw_1059 : Cond.fieldLink "TombLaneModel" 243 "TombLaneModel" "sums" "[I" ∈ big := big_mem 1059 (by decide +kernel) rfl
theorem kw_1060 : Cond.fieldLink "TombLaneModel" 246 "TombLaneModel" "groups" "[I" ∈ big := big_mem 1060 (by decide +kernel) rfl
theorem kw_1061 : Cond.fieldLink "TombLaneModel" 253 "TombLaneModel" "debts" "I" ∈ big := big_mem 1061 (by decide +kernel) rfl
theorem kw_1147 : Cond.arrayClass FieldType.byte ∈ big := big_mem 1147 (by decide +kernel) rfl
theorem kw_1148 : Cond.arrayClass FieldType.boolean ∈ big := big_mem 1148 (by decide +kernel) rfl
theorem kw_1149 : Cond.methodLink "TombLaneLaw" 71 ⟨"TombLaneModel", "ration", "(II)Z"⟩ ∈ big := big_mem 1149 (by decide +kernel) rfl
theorem kw_1150 : Cond.instanceMethod ⟨"TombLaneModel", "ration", "(II)Z"⟩ ∈ big := big_mem 1150 (by decide +kernel) rfl
theorem kw_1151 : Cond.selects "TombLaneModel" ⟨"TombLaneModel", "ration", "(II)Z"⟩ ⟨"TombLaneModel", "ration", "(II)Z"⟩ ∈ big := big_mem 1151 (by decide +kernel) rfl
theorem kw_1152 : Cond.code ⟨"TombLaneModel", "ration", "(II)Z"⟩ prog_14_method_39_code 3 (some FieldType.boolean) ∈ big := big_mem 1152 (by decide +kernel) rfl
theorem kw_1153 : Cond.methodLink "TombLaneLaw" 75 ⟨"TombLaneModel", "come", "(III)I"⟩ ∈ big := big_mem 1153 (by decide +kernel) rfl
theorem kw_1154 : Cond.instanceMethod ⟨"TombLaneModel", "come", "(III)I"⟩ ∈ big := big_mem 1154 (by decide +kernel) rfl
theorem kw_1155 : Cond.selects "TombLaneModel" ⟨"TombLaneModel", "come", "(III)I"⟩ ⟨"TombLaneModel", "come", "(III)I"⟩ ∈ big := big_mem 1155 (by decide +kernel) rfl
theorem kw_1156 : Cond.code ⟨"TombLaneModel", "come", "(III)I"⟩ prog_14_method_40_code 4 (some FieldType.int) ∈ big := big_mem 1156 (by decide +kernel) rfl
theorem kw_1157 : Cond.methodLink "TombLaneLaw" 80 ⟨"TombLaneModel", "arrears", "(II)I"⟩ ∈ big := big_mem 1157 (by decide +kernel) rfl
theorem kw_1158 : Cond.instanceMethod ⟨"TombLaneModel", "arrears", "(II)I"⟩ ∈ big := big_mem 1158 (by decide +kernel) rfl
theorem kw_1159 : Cond.selects "TombLaneModel" ⟨"TombLaneModel", "arrears", "(II)I"⟩ ⟨"TombLaneModel", "arrears", "(II)I"⟩ ∈ big := big_mem 1159 (by decide +kernel) rfl
theorem kw_1160 : Cond.code ⟨"TombLaneModel", "arrears", "(II)I"⟩ prog_14_method_41_code 5 (some FieldType.int) ∈ big := big_mem 1160 (by decide +kernel) rfl
theorem kw_1161 : Cond.constant "TombLaneModel" 252 (-1000000 : Int32) ∈ big := big_mem 1161 (by decide +kernel) rfl
theorem kw_1162 : Cond.methodLink "TombLaneLaw" 85 ⟨"TombLaneModel", "worth", "(III)Z"⟩ ∈ big := big_mem 1162 (by decide +kernel) rfl
theorem kw_1163 : Cond.instanceMethod ⟨"TombLaneModel", "worth", "(III)Z"⟩ ∈ big := big_mem 1163 (by decide +kernel) rfl
theorem kw_1164 : Cond.selects "TombLaneModel" ⟨"TombLaneModel", "worth", "(III)Z"⟩ ⟨"TombLaneModel", "worth", "(III)Z"⟩ ∈ big := big_mem 1164 (by decide +kernel) rfl
theorem kw_1165 : Cond.code ⟨"TombLaneModel", "worth", "(III)Z"⟩ prog_14_method_42_code 4 (some FieldType.boolean) ∈ big := big_mem 1165 (by decide +kernel) rfl
theorem kw_1166 : Cond.methodLink "TombLaneLaw" 89 ⟨"TombLaneModel", "debt", "(IIIII)I"⟩ ∈ big := big_mem 1166 (by decide +kernel) rfl
theorem kw_1167 : Cond.instanceMethod ⟨"TombLaneModel", "debt", "(IIIII)I"⟩ ∈ big := big_mem 1167 (by decide +kernel) rfl
theorem kw_1168 : Cond.selects "TombLaneModel" ⟨"TombLaneModel", "debt", "(IIIII)I"⟩ ⟨"TombLaneModel", "debt", "(IIIII)I"⟩ ∈ big := big_mem 1168 (by decide +kernel) rfl
theorem kw_1169 : Cond.code ⟨"TombLaneModel", "debt", "(IIIII)I"⟩ prog_14_method_43_code 6 (some FieldType.int) ∈ big := big_mem 1169 (by decide +kernel) rfl
theorem kw_1170 : Cond.methodLink "TombLaneLaw" 93 ⟨"TombLaneModel", "pay", "(II)Z"⟩ ∈ big := big_mem 1170 (by decide +kernel) rfl
theorem kw_1171 : Cond.instanceMethod ⟨"TombLaneModel", "pay", "(II)Z"⟩ ∈ big := big_mem 1171 (by decide +kernel) rfl
theorem kw_1172 : Cond.selects "TombLaneModel" ⟨"TombLaneModel", "pay", "(II)Z"⟩ ⟨"TombLaneModel", "pay", "(II)Z"⟩ ∈ big := big_mem 1172 (by decide +kernel) rfl
theorem kw_1173 : Cond.code ⟨"TombLaneModel", "pay", "(II)Z"⟩ prog_14_method_44_code 3 (some FieldType.boolean) ∈ big := big_mem 1173 (by decide +kernel) rfl
theorem kw_1174 : Cond.methodLink "TombLaneLaw" 97 ⟨"TombLaneModel", "balance", "(II)I"⟩ ∈ big := big_mem 1174 (by decide +kernel) rfl
theorem kw_1175 : Cond.instanceMethod ⟨"TombLaneModel", "balance", "(II)I"⟩ ∈ big := big_mem 1175 (by decide +kernel) rfl
theorem kw_1176 : Cond.selects "TombLaneModel" ⟨"TombLaneModel", "balance", "(II)I"⟩ ⟨"TombLaneModel", "balance", "(II)I"⟩ ∈ big := big_mem 1176 (by decide +kernel) rfl
theorem kw_1177 : Cond.code ⟨"TombLaneModel", "balance", "(II)I"⟩ prog_14_method_46_code 3 (some FieldType.int) ∈ big := big_mem 1177 (by decide +kernel) rfl
theorem kw_1178 : Cond.methodLink "TombLaneModel" 256 ⟨"TombLaneModel", "balanceOf", "(II)I"⟩ ∈ big := big_mem 1178 (by decide +kernel) rfl
theorem kw_1180 : Cond.instanceMethod ⟨"TombLaneModel", "balanceOf", "(II)I"⟩ ∈ big := big_mem 1180 (by decide +kernel) rfl
theorem kw_1181 : Cond.code ⟨"TombLaneModel", "balanceOf", "(II)I"⟩ prog_14_method_45_code 6 (some FieldType.int) ∈ big := big_mem 1181 (by decide +kernel) rfl
theorem kw_1182 : Cond.constant "TombLaneModel" 259 (-2000000001 : Int32) ∈ big := big_mem 1182 (by decide +kernel) rfl
theorem kw_1183 : Cond.methodLink "TombLaneLaw" 101 ⟨"TombLaneModel", "fewest", "(I)I"⟩ ∈ big := big_mem 1183 (by decide +kernel) rfl
theorem kw_1184 : Cond.instanceMethod ⟨"TombLaneModel", "fewest", "(I)I"⟩ ∈ big := big_mem 1184 (by decide +kernel) rfl
theorem kw_1185 : Cond.selects "TombLaneModel" ⟨"TombLaneModel", "fewest", "(I)I"⟩ ⟨"TombLaneModel", "fewest", "(I)I"⟩ ∈ big := big_mem 1185 (by decide +kernel) rfl
theorem kw_1186 : Cond.code ⟨"TombLaneModel", "fewest", "(I)I"⟩ prog_14_method_47_code 6 (some FieldType.int) ∈ big := big_mem 1186 (by decide +kernel) rfl
theorem kw_1187 : Cond.methodLink "TombLaneLaw" 109 ⟨"TombLaneModel", "about", "(I)I"⟩ ∈ big := big_mem 1187 (by decide +kernel) rfl
theorem kw_1188 : Cond.instanceMethod ⟨"TombLaneModel", "about", "(I)I"⟩ ∈ big := big_mem 1188 (by decide +kernel) rfl
theorem kw_1189 : Cond.selects "TombLaneModel" ⟨"TombLaneModel", "about", "(I)I"⟩ ⟨"TombLaneModel", "about", "(I)I"⟩ ∈ big := big_mem 1189 (by decide +kernel) rfl
theorem kw_1190 : Cond.code ⟨"TombLaneModel", "about", "(I)I"⟩ prog_14_method_48_code 2 (some FieldType.int) ∈ big := big_mem 1190 (by decide +kernel) rfl
theorem kw_1191 : Cond.methodLink "TombLaneLaw" 24 ⟨"TombLaneModel", "feed", "(IIIII)I"⟩ ∈ big := big_mem 1191 (by decide +kernel) rfl
theorem kw_1192 : Cond.instanceMethod ⟨"TombLaneModel", "feed", "(IIIII)I"⟩ ∈ big := big_mem 1192 (by decide +kernel) rfl
theorem kw_1193 : Cond.selects "TombLaneModel" ⟨"TombLaneModel", "feed", "(IIIII)I"⟩ ⟨"TombLaneModel", "feed", "(IIIII)I"⟩ ∈ big := big_mem 1193 (by decide +kernel) rfl
theorem kw_1194 : Cond.code ⟨"TombLaneModel", "feed", "(IIIII)I"⟩ prog_14_method_49_code 8 (some FieldType.int) ∈ big := big_mem 1194 (by decide +kernel) rfl
theorem kw_1195 : Cond.methodLink "TombLaneLaw" 29 ⟨"TombLaneModel", "end", "(I)I"⟩ ∈ big := big_mem 1195 (by decide +kernel) rfl
theorem kw_1196 : Cond.instanceMethod ⟨"TombLaneModel", "end", "(I)I"⟩ ∈ big := big_mem 1196 (by decide +kernel) rfl
theorem kw_1197 : Cond.selects "TombLaneModel" ⟨"TombLaneModel", "end", "(I)I"⟩ ⟨"TombLaneModel", "end", "(I)I"⟩ ∈ big := big_mem 1197 (by decide +kernel) rfl
theorem kw_1198 : Cond.code ⟨"TombLaneModel", "end", "(I)I"⟩ prog_14_method_50_code 2 (some FieldType.int) ∈ big := big_mem 1198 (by decide +kernel) rfl
theorem kw_1199 : Cond.constantLong "TombLaneLaw" 13 (4294967295 : Int64) ∈ big := big_mem 1199 (by decide +kernel) rfl
theorem kw_1200 : Cond.castable "TombLane" "java/lang/Object" ∈ nn := nn_mem 1200 (by decide +kernel) rfl
theorem kw_1201 : Cond.castable "TombLane$Men" "java/lang/Object" ∈ nn := nn_mem 1201 (by decide +kernel) rfl
theorem kw_1202 : Cond.castable "TombLane$Tape" "java/lang/Object" ∈ nn := nn_mem 1202 (by decide +kernel) rfl
theorem kw_1203 : Cond.castable "TombLane$FlakeReader" "java/lang/Object" ∈ nn := nn_mem 1203 (by decide +kernel) rfl
theorem kw_1204 : Cond.castable "TombLane$Line" "java/lang/Object" ∈ nn := nn_mem 1204 (by decide +kernel) rfl
theorem kw_1205 : Cond.castable "TombLane$Tokens" "java/lang/Object" ∈ nn := nn_mem 1205 (by decide +kernel) rfl
theorem kw_1206 : Cond.castable "TombLane$Flakes" "java/lang/Object" ∈ nn := nn_mem 1206 (by decide +kernel) rfl
theorem kw_1207 : Cond.castable "java/util/ArrayList" "java/lang/Object" ∈ nn := nn_mem 1207 (by decide +kernel) rfl
theorem kw_1208 : Cond.castable "TombLane$DayBook" "java/lang/Object" ∈ nn := nn_mem 1208 (by decide +kernel) rfl
theorem kw_1209 : Cond.castable "TombLane$Rations" "java/lang/Object" ∈ nn := nn_mem 1209 (by decide +kernel) rfl
theorem kw_1210 : Cond.castable "TombLane$Debts" "java/lang/Object" ∈ nn := nn_mem 1210 (by decide +kernel) rfl
theorem kw_1211 : Cond.castable "TombLane$Settling" "java/lang/Object" ∈ nn := nn_mem 1211 (by decide +kernel) rfl
theorem kw_1212 : Cond.castable "TombLaneModel" "java/lang/Object" ∈ nn := nn_mem 1212 (by decide +kernel) rfl
theorem kw_1213 : Cond.castable "TombLane$Flake" "java/lang/Object" ∈ nn := nn_mem 1213 (by decide +kernel) rfl
theorem kw_1214 : Cond.sameMethod "[Ljava/lang/Object;" "java/lang/Object" "getClass" "()Ljava/lang/Class;" ∈ big := big_mem 1214 (by decide +kernel) rfl
theorem kw_1215 : Cond.selects "[Ljava/lang/Object;" ⟨"java/lang/Object", "getClass", "()Ljava/lang/Class;"⟩ ⟨"java/lang/Object", "getClass", "()Ljava/lang/Class;"⟩ ∈ big := big_mem 1215 (by decide +kernel) rfl
theorem kw_1216 : Cond.declares ⟨"java/lang/Object", "getClass", "()Ljava/lang/Class;"⟩ ∈ nn := nn_mem 1216 (by decide +kernel) rfl
theorem kw_1217 : Cond.castable "[J" "java/lang/Object" ∈ nn := nn_mem 1217 (by decide +kernel) rfl
theorem kw_1218 : Cond.castable "[I" "java/lang/Object" ∈ nn := nn_mem 1218 (by decide +kernel) rfl
theorem kw_1219 : Cond.castable "[Ljava/lang/Object;" "java/lang/Object" ∈ nn := nn_mem 1219 (by decide +kernel) rfl
theorem kw_1220 : Cond.castable "[B" "java/lang/Object" ∈ nn := nn_mem 1220 (by decide +kernel) rfl
theorem kw_1221 : Cond.castable "[Z" "java/lang/Object" ∈ nn := nn_mem 1221 (by decide +kernel) rfl
end
section
def dz (b : ByteArray) (pc : Nat) (i : Instr) (n q : Nat) : Prop := decode b pc = .ok (i, n) ∧ pc + n = q
end
section
theorem d_Dy_init_0 : dz b_Dy_init 0 (.aload_n 0) 1 1 := ⟨by decide +kernel, rfl⟩
theorem d_Dy_init_1 : dz b_Dy_init 1 (.invokespecial 3) 3 4 := ⟨by decide +kernel, rfl⟩
theorem d_Dy_init_4 : dz b_Dy_init 4 (.aload_n 0) 1 5 := ⟨by decide +kernel, rfl⟩
theorem d_Dy_init_5 : dz b_Dy_init 5 (.bipush 12) 2 7 := ⟨by decide +kernel, rfl⟩
theorem d_Dy_init_7 : dz b_Dy_init 7 (.newarray .int) 2 9 := ⟨by decide +kernel, rfl⟩
theorem d_Dy_init_9 : dz b_Dy_init 9 (.putfield 9) 3 12 := ⟨by decide +kernel, rfl⟩
theorem d_Dy_init_12 : dz b_Dy_init 12 (.aload_n 0) 1 13 := ⟨by decide +kernel, rfl⟩
theorem d_Dy_init_13 : dz b_Dy_init 13 (.bipush 8) 2 15 := ⟨by decide +kernel, rfl⟩
theorem d_Dy_init_15 : dz b_Dy_init 15 (.newarray .int) 2 17 := ⟨by decide +kernel, rfl⟩
theorem d_Dy_init_17 : dz b_Dy_init 17 (.putfield 15) 3 20 := ⟨by decide +kernel, rfl⟩
theorem d_Dy_init_20 : dz b_Dy_init 20 (.aload_n 0) 1 21 := ⟨by decide +kernel, rfl⟩
theorem d_Dy_init_21 : dz b_Dy_init 21 (.iconst (-1)) 1 22 := ⟨by decide +kernel, rfl⟩
theorem d_Dy_init_22 : dz b_Dy_init 22 (.putfield 18) 3 25 := ⟨by decide +kernel, rfl⟩
theorem d_Dy_init_25 : dz b_Dy_init 25 (.aload_n 0) 1 26 := ⟨by decide +kernel, rfl⟩
theorem d_Dy_init_26 : dz b_Dy_init 26 (.iconst 0) 1 27 := ⟨by decide +kernel, rfl⟩
theorem d_Dy_init_27 : dz b_Dy_init 27 (.putfield 22) 3 30 := ⟨by decide +kernel, rfl⟩
theorem d_Dy_init_30 : dz b_Dy_init 30 (.aload_n 0) 1 31 := ⟨by decide +kernel, rfl⟩
theorem d_Dy_init_31 : dz b_Dy_init 31 (.aload_n 1) 1 32 := ⟨by decide +kernel, rfl⟩
theorem d_Dy_init_32 : dz b_Dy_init 32 (.putfield 26) 3 35 := ⟨by decide +kernel, rfl⟩
theorem d_Dy_init_35 : dz b_Dy_init 35 (.aload_n 0) 1 36 := ⟨by decide +kernel, rfl⟩
theorem d_Dy_init_36 : dz b_Dy_init 36 (.aload_n 2) 1 37 := ⟨by decide +kernel, rfl⟩
theorem d_Dy_init_37 : dz b_Dy_init 37 (.putfield 30) 3 40 := ⟨by decide +kernel, rfl⟩
theorem d_Dy_init_40 : dz b_Dy_init 40 (.return_) 1 41 := ⟨by decide +kernel, rfl⟩
theorem d_Dy_stateOf_0 : dz b_Dy_stateOf 0 (.aload_n 0) 1 1 := ⟨by decide +kernel, rfl⟩
theorem d_Dy_stateOf_1 : dz b_Dy_stateOf 1 (.aload_n 0) 1 2 := ⟨by decide +kernel, rfl⟩
theorem d_Dy_stateOf_2 : dz b_Dy_stateOf 2 (.getfield 26) 3 5 := ⟨by decide +kernel, rfl⟩
theorem d_Dy_stateOf_5 : dz b_Dy_stateOf 5 (.getfield 34) 3 8 := ⟨by decide +kernel, rfl⟩
theorem d_Dy_stateOf_8 : dz b_Dy_stateOf 8 (.iload_n 1) 1 9 := ⟨by decide +kernel, rfl⟩
theorem d_Dy_stateOf_9 : dz b_Dy_stateOf 9 (.iaload) 1 10 := ⟨by decide +kernel, rfl⟩
theorem d_Dy_stateOf_10 : dz b_Dy_stateOf 10 (.iload_n 2) 1 11 := ⟨by decide +kernel, rfl⟩
theorem d_Dy_stateOf_11 : dz b_Dy_stateOf 11 (.iload_n 3) 1 12 := ⟨by decide +kernel, rfl⟩
theorem d_Dy_stateOf_12 : dz b_Dy_stateOf 12 (.invokevirtual 39) 3 15 := ⟨by decide +kernel, rfl⟩
theorem d_Dy_stateOf_15 : dz b_Dy_stateOf 15 (.pop) 1 16 := ⟨by decide +kernel, rfl⟩
theorem d_Dy_stateOf_16 : dz b_Dy_stateOf 16 (.aload_n 0) 1 17 := ⟨by decide +kernel, rfl⟩
theorem d_Dy_stateOf_17 : dz b_Dy_stateOf 17 (.getfield 9) 3 20 := ⟨by decide +kernel, rfl⟩
theorem d_Dy_stateOf_20 : dz b_Dy_stateOf 20 (.iload_n 1) 1 21 := ⟨by decide +kernel, rfl⟩
theorem d_Dy_stateOf_21 : dz b_Dy_stateOf 21 (.iaload) 1 22 := ⟨by decide +kernel, rfl⟩
theorem d_Dy_stateOf_22 : dz b_Dy_stateOf 22 (.ireturn) 1 23 := ⟨by decide +kernel, rfl⟩
theorem d_Dy_daysByState_0 : dz b_Dy_daysByState 0 (.iconst 0) 1 1 := ⟨by decide +kernel, rfl⟩
theorem d_Dy_daysByState_1 : dz b_Dy_daysByState 1 (.istore 4) 2 3 := ⟨by decide +kernel, rfl⟩
theorem d_Dy_daysByState_3 : dz b_Dy_daysByState 3 (.iload 4) 2 5 := ⟨by decide +kernel, rfl⟩
theorem d_Dy_daysByState_5 : dz b_Dy_daysByState 5 (.bipush 8) 2 7 := ⟨by decide +kernel, rfl⟩
theorem d_Dy_daysByState_7 : dj b_Dy_daysByState 7 (.if_icmp .ge) 10 24 := ⟨17, by decide +kernel, rfl, by decide⟩
theorem d_Dy_daysByState_10 : dz b_Dy_daysByState 10 (.aload_n 0) 1 11 := ⟨by decide +kernel, rfl⟩
theorem d_Dy_daysByState_11 : dz b_Dy_daysByState 11 (.getfield 15) 3 14 := ⟨by decide +kernel, rfl⟩
theorem d_Dy_daysByState_14 : dz b_Dy_daysByState 14 (.iload 4) 2 16 := ⟨by decide +kernel, rfl⟩
theorem d_Dy_daysByState_16 : dz b_Dy_daysByState 16 (.iconst 0) 1 17 := ⟨by decide +kernel, rfl⟩
theorem d_Dy_daysByState_17 : dz b_Dy_daysByState 17 (.iastore) 1 18 := ⟨by decide +kernel, rfl⟩
theorem d_Dy_daysByState_18 : dz b_Dy_daysByState 18 (.iinc 4 1) 3 21 := ⟨by decide +kernel, rfl⟩
theorem d_Dy_daysByState_21 : dj b_Dy_daysByState 21 (.goto) 24 3 := ⟨(-18), by decide +kernel, rfl, by decide⟩
theorem d_Dy_daysByState_24 : dz b_Dy_daysByState 24 (.iconst 0) 1 25 := ⟨by decide +kernel, rfl⟩
theorem d_Dy_daysByState_25 : dz b_Dy_daysByState 25 (.istore 4) 2 27 := ⟨by decide +kernel, rfl⟩
theorem d_Dy_daysByState_27 : dz b_Dy_daysByState 27 (.iload 4) 2 29 := ⟨by decide +kernel, rfl⟩
theorem d_Dy_daysByState_29 : dz b_Dy_daysByState 29 (.bipush 30) 2 31 := ⟨by decide +kernel, rfl⟩
theorem d_Dy_daysByState_31 : dj b_Dy_daysByState 31 (.if_icmp .ge) 34 62 := ⟨31, by decide +kernel, rfl, by decide⟩
theorem d_Dy_daysByState_34 : dz b_Dy_daysByState 34 (.aload_n 0) 1 35 := ⟨by decide +kernel, rfl⟩
theorem d_Dy_daysByState_35 : dz b_Dy_daysByState 35 (.getfield 15) 3 38 := ⟨by decide +kernel, rfl⟩
theorem d_Dy_daysByState_38 : dz b_Dy_daysByState 38 (.aload_n 0) 1 39 := ⟨by decide +kernel, rfl⟩
theorem d_Dy_daysByState_39 : dz b_Dy_daysByState 39 (.iload_n 1) 1 40 := ⟨by decide +kernel, rfl⟩
theorem d_Dy_daysByState_40 : dz b_Dy_daysByState 40 (.iload_n 2) 1 41 := ⟨by decide +kernel, rfl⟩
theorem d_Dy_daysByState_41 : dz b_Dy_daysByState 41 (.bipush 30) 2 43 := ⟨by decide +kernel, rfl⟩
theorem d_Dy_daysByState_43 : dz b_Dy_daysByState 43 (.imul) 1 44 := ⟨by decide +kernel, rfl⟩
theorem d_Dy_daysByState_44 : dz b_Dy_daysByState 44 (.iload 4) 2 46 := ⟨by decide +kernel, rfl⟩
theorem d_Dy_daysByState_46 : dz b_Dy_daysByState 46 (.iadd) 1 47 := ⟨by decide +kernel, rfl⟩
theorem d_Dy_daysByState_47 : dz b_Dy_daysByState 47 (.iload_n 3) 1 48 := ⟨by decide +kernel, rfl⟩
theorem d_Dy_daysByState_48 : dz b_Dy_daysByState 48 (.invokevirtual 43) 3 51 := ⟨by decide +kernel, rfl⟩
theorem d_Dy_daysByState_51 : dz b_Dy_daysByState 51 (.dup2) 1 52 := ⟨by decide +kernel, rfl⟩
theorem d_Dy_daysByState_52 : dz b_Dy_daysByState 52 (.iaload) 1 53 := ⟨by decide +kernel, rfl⟩
theorem d_Dy_daysByState_53 : dz b_Dy_daysByState 53 (.iconst 1) 1 54 := ⟨by decide +kernel, rfl⟩
theorem d_Dy_daysByState_54 : dz b_Dy_daysByState 54 (.iadd) 1 55 := ⟨by decide +kernel, rfl⟩
theorem d_Dy_daysByState_55 : dz b_Dy_daysByState 55 (.iastore) 1 56 := ⟨by decide +kernel, rfl⟩
theorem d_Dy_daysByState_56 : dz b_Dy_daysByState 56 (.iinc 4 1) 3 59 := ⟨by decide +kernel, rfl⟩
theorem d_Dy_daysByState_59 : dj b_Dy_daysByState 59 (.goto) 62 27 := ⟨(-32), by decide +kernel, rfl, by decide⟩
theorem d_Dy_daysByState_62 : dz b_Dy_daysByState 62 (.aload_n 0) 1 63 := ⟨by decide +kernel, rfl⟩
theorem d_Dy_daysByState_63 : dz b_Dy_daysByState 63 (.getfield 15) 3 66 := ⟨by decide +kernel, rfl⟩
theorem d_Dy_daysByState_66 : dz b_Dy_daysByState 66 (.areturn) 1 67 := ⟨by decide +kernel, rfl⟩
theorem d_Dy_reckon_0 : dz b_Dy_reckon 0 (.iconst 0) 1 1 := ⟨by decide +kernel, rfl⟩
theorem d_Dy_reckon_1 : dz b_Dy_reckon 1 (.istore 4) 2 3 := ⟨by decide +kernel, rfl⟩
theorem d_Dy_reckon_3 : dz b_Dy_reckon 3 (.iload 4) 2 5 := ⟨by decide +kernel, rfl⟩
theorem d_Dy_reckon_5 : dz b_Dy_reckon 5 (.bipush 12) 2 7 := ⟨by decide +kernel, rfl⟩
theorem d_Dy_reckon_7 : dj b_Dy_reckon 7 (.if_icmp .ge) 10 24 := ⟨17, by decide +kernel, rfl, by decide⟩
theorem d_Dy_reckon_10 : dz b_Dy_reckon 10 (.aload_n 0) 1 11 := ⟨by decide +kernel, rfl⟩
theorem d_Dy_reckon_11 : dz b_Dy_reckon 11 (.getfield 9) 3 14 := ⟨by decide +kernel, rfl⟩
theorem d_Dy_reckon_14 : dz b_Dy_reckon 14 (.iload 4) 2 16 := ⟨by decide +kernel, rfl⟩
theorem d_Dy_reckon_16 : dz b_Dy_reckon 16 (.iconst 0) 1 17 := ⟨by decide +kernel, rfl⟩
theorem d_Dy_reckon_17 : dz b_Dy_reckon 17 (.iastore) 1 18 := ⟨by decide +kernel, rfl⟩
theorem d_Dy_reckon_18 : dz b_Dy_reckon 18 (.iinc 4 1) 3 21 := ⟨by decide +kernel, rfl⟩
theorem d_Dy_reckon_21 : dj b_Dy_reckon 21 (.goto) 24 3 := ⟨(-18), by decide +kernel, rfl, by decide⟩
theorem d_Dy_reckon_24 : dz b_Dy_reckon 24 (.aload_n 0) 1 25 := ⟨by decide +kernel, rfl⟩
theorem d_Dy_reckon_25 : dz b_Dy_reckon 25 (.iconst (-1)) 1 26 := ⟨by decide +kernel, rfl⟩
theorem d_Dy_reckon_26 : dz b_Dy_reckon 26 (.putfield 18) 3 29 := ⟨by decide +kernel, rfl⟩
theorem d_Dy_reckon_29 : dz b_Dy_reckon 29 (.aload_n 0) 1 30 := ⟨by decide +kernel, rfl⟩
theorem d_Dy_reckon_30 : dz b_Dy_reckon 30 (.iconst 0) 1 31 := ⟨by decide +kernel, rfl⟩
theorem d_Dy_reckon_31 : dz b_Dy_reckon 31 (.putfield 22) 3 34 := ⟨by decide +kernel, rfl⟩
theorem d_Dy_reckon_34 : dz b_Dy_reckon 34 (.iconst 0) 1 35 := ⟨by decide +kernel, rfl⟩
theorem d_Dy_reckon_35 : dz b_Dy_reckon 35 (.istore 4) 2 37 := ⟨by decide +kernel, rfl⟩
theorem d_Dy_reckon_37 : dz b_Dy_reckon 37 (.iload 4) 2 39 := ⟨by decide +kernel, rfl⟩
theorem d_Dy_reckon_39 : dz b_Dy_reckon 39 (.aload_n 0) 1 40 := ⟨by decide +kernel, rfl⟩
theorem d_Dy_reckon_40 : dz b_Dy_reckon 40 (.getfield 30) 3 43 := ⟨by decide +kernel, rfl⟩
theorem d_Dy_reckon_43 : dz b_Dy_reckon 43 (.getfield 46) 3 46 := ⟨by decide +kernel, rfl⟩
theorem d_Dy_reckon_46 : dz b_Dy_reckon 46 (.invokevirtual 52) 3 49 := ⟨by decide +kernel, rfl⟩
theorem d_Dy_reckon_49 : dj b_Dy_reckon 49 (.if_icmp .ge) 52 92 := ⟨43, by decide +kernel, rfl, by decide⟩
theorem d_Dy_reckon_52 : dz b_Dy_reckon 52 (.aload_n 0) 1 53 := ⟨by decide +kernel, rfl⟩
theorem d_Dy_reckon_53 : dz b_Dy_reckon 53 (.getfield 30) 3 56 := ⟨by decide +kernel, rfl⟩
theorem d_Dy_reckon_56 : dz b_Dy_reckon 56 (.getfield 46) 3 59 := ⟨by decide +kernel, rfl⟩
theorem d_Dy_reckon_59 : dz b_Dy_reckon 59 (.iload 4) 2 61 := ⟨by decide +kernel, rfl⟩
theorem d_Dy_reckon_61 : dz b_Dy_reckon 61 (.invokevirtual 58) 3 64 := ⟨by decide +kernel, rfl⟩
theorem d_Dy_reckon_64 : dz b_Dy_reckon 64 (.checkcast 62) 3 67 := ⟨by decide +kernel, rfl⟩
theorem d_Dy_reckon_67 : dz b_Dy_reckon 67 (.astore 5) 2 69 := ⟨by decide +kernel, rfl⟩
theorem d_Dy_reckon_69 : dz b_Dy_reckon 69 (.aload 5) 2 71 := ⟨by decide +kernel, rfl⟩
theorem d_Dy_reckon_71 : dz b_Dy_reckon 71 (.iload_n 3) 1 72 := ⟨by decide +kernel, rfl⟩
theorem d_Dy_reckon_72 : dz b_Dy_reckon 72 (.invokevirtual 64) 3 75 := ⟨by decide +kernel, rfl⟩
theorem d_Dy_reckon_75 : dj b_Dy_reckon 75 (.ifCond .eq) 78 86 := ⟨11, by decide +kernel, rfl, by decide⟩
theorem d_Dy_reckon_78 : dz b_Dy_reckon 78 (.aload_n 0) 1 79 := ⟨by decide +kernel, rfl⟩
theorem d_Dy_reckon_79 : dz b_Dy_reckon 79 (.aload 5) 2 81 := ⟨by decide +kernel, rfl⟩
theorem d_Dy_reckon_81 : dz b_Dy_reckon 81 (.iload_n 1) 1 82 := ⟨by decide +kernel, rfl⟩
theorem d_Dy_reckon_82 : dz b_Dy_reckon 82 (.iload_n 2) 1 83 := ⟨by decide +kernel, rfl⟩
theorem d_Dy_reckon_83 : dz b_Dy_reckon 83 (.invokevirtual 68) 3 86 := ⟨by decide +kernel, rfl⟩
theorem d_Dy_reckon_86 : dz b_Dy_reckon 86 (.iinc 4 1) 3 89 := ⟨by decide +kernel, rfl⟩
theorem d_Dy_reckon_89 : dj b_Dy_reckon 89 (.goto) 92 37 := ⟨(-52), by decide +kernel, rfl, by decide⟩
theorem d_Dy_reckon_92 : dz b_Dy_reckon 92 (.aload_n 0) 1 93 := ⟨by decide +kernel, rfl⟩
theorem d_Dy_reckon_93 : dz b_Dy_reckon 93 (.iload_n 1) 1 94 := ⟨by decide +kernel, rfl⟩
theorem d_Dy_reckon_94 : dz b_Dy_reckon 94 (.invokevirtual 72) 3 97 := ⟨by decide +kernel, rfl⟩
theorem d_Dy_reckon_97 : dz b_Dy_reckon 97 (.ireturn) 1 98 := ⟨by decide +kernel, rfl⟩
theorem d_Dy_hearFlake_0 : dz b_Dy_hearFlake 0 (.iconst 0) 1 1 := ⟨by decide +kernel, rfl⟩
theorem d_Dy_hearFlake_1 : dz b_Dy_hearFlake 1 (.istore 4) 2 3 := ⟨by decide +kernel, rfl⟩
theorem d_Dy_hearFlake_3 : dz b_Dy_hearFlake 3 (.iload 4) 2 5 := ⟨by decide +kernel, rfl⟩
theorem d_Dy_hearFlake_5 : dz b_Dy_hearFlake 5 (.aload_n 1) 1 6 := ⟨by decide +kernel, rfl⟩
theorem d_Dy_hearFlake_6 : dz b_Dy_hearFlake 6 (.getfield 76) 3 9 := ⟨by decide +kernel, rfl⟩
theorem d_Dy_hearFlake_9 : dz b_Dy_hearFlake 9 (.invokevirtual 52) 3 12 := ⟨by decide +kernel, rfl⟩
theorem d_Dy_hearFlake_12 : dj b_Dy_hearFlake 12 (.if_icmp .ge) 15 51 := ⟨39, by decide +kernel, rfl, by decide⟩
theorem d_Dy_hearFlake_15 : dz b_Dy_hearFlake 15 (.aload_n 1) 1 16 := ⟨by decide +kernel, rfl⟩
theorem d_Dy_hearFlake_16 : dz b_Dy_hearFlake 16 (.getfield 76) 3 19 := ⟨by decide +kernel, rfl⟩
theorem d_Dy_hearFlake_19 : dz b_Dy_hearFlake 19 (.iload 4) 2 21 := ⟨by decide +kernel, rfl⟩
theorem d_Dy_hearFlake_21 : dz b_Dy_hearFlake 21 (.invokevirtual 58) 3 24 := ⟨by decide +kernel, rfl⟩
theorem d_Dy_hearFlake_24 : dz b_Dy_hearFlake 24 (.checkcast 79) 3 27 := ⟨by decide +kernel, rfl⟩
theorem d_Dy_hearFlake_27 : dz b_Dy_hearFlake 27 (.astore 5) 2 29 := ⟨by decide +kernel, rfl⟩
theorem d_Dy_hearFlake_29 : dz b_Dy_hearFlake 29 (.aload 5) 2 31 := ⟨by decide +kernel, rfl⟩
theorem d_Dy_hearFlake_31 : dz b_Dy_hearFlake 31 (.iload_n 2) 1 32 := ⟨by decide +kernel, rfl⟩
theorem d_Dy_hearFlake_32 : dz b_Dy_hearFlake 32 (.iload_n 3) 1 33 := ⟨by decide +kernel, rfl⟩
theorem d_Dy_hearFlake_33 : dz b_Dy_hearFlake 33 (.invokevirtual 81) 3 36 := ⟨by decide +kernel, rfl⟩
theorem d_Dy_hearFlake_36 : dj b_Dy_hearFlake 36 (.ifCond .eq) 39 45 := ⟨9, by decide +kernel, rfl, by decide⟩
theorem d_Dy_hearFlake_39 : dz b_Dy_hearFlake 39 (.aload_n 0) 1 40 := ⟨by decide +kernel, rfl⟩
theorem d_Dy_hearFlake_40 : dz b_Dy_hearFlake 40 (.aload 5) 2 42 := ⟨by decide +kernel, rfl⟩
theorem d_Dy_hearFlake_42 : dz b_Dy_hearFlake 42 (.invokevirtual 85) 3 45 := ⟨by decide +kernel, rfl⟩
theorem d_Dy_hearFlake_45 : dz b_Dy_hearFlake 45 (.iinc 4 1) 3 48 := ⟨by decide +kernel, rfl⟩
theorem d_Dy_hearFlake_48 : dj b_Dy_hearFlake 48 (.goto) 51 3 := ⟨(-45), by decide +kernel, rfl, by decide⟩
theorem d_Dy_hearFlake_51 : dz b_Dy_hearFlake 51 (.return_) 1 52 := ⟨by decide +kernel, rfl⟩
theorem d_Dy_hearLine_0 : dz b_Dy_hearLine 0 (.iconst 0) 1 1 := ⟨by decide +kernel, rfl⟩
theorem d_Dy_hearLine_1 : dz b_Dy_hearLine 1 (.istore_n 2) 1 2 := ⟨by decide +kernel, rfl⟩
theorem d_Dy_hearLine_2 : dz b_Dy_hearLine 2 (.iload_n 2) 1 3 := ⟨by decide +kernel, rfl⟩
theorem d_Dy_hearLine_3 : dz b_Dy_hearLine 3 (.aload_n 0) 1 4 := ⟨by decide +kernel, rfl⟩
theorem d_Dy_hearLine_4 : dz b_Dy_hearLine 4 (.getfield 26) 3 7 := ⟨by decide +kernel, rfl⟩
theorem d_Dy_hearLine_7 : dz b_Dy_hearLine 7 (.getfield 89) 3 10 := ⟨by decide +kernel, rfl⟩
theorem d_Dy_hearLine_10 : dj b_Dy_hearLine 10 (.if_icmp .ge) 13 55 := ⟨45, by decide +kernel, rfl, by decide⟩
theorem d_Dy_hearLine_13 : dz b_Dy_hearLine 13 (.aload_n 0) 1 14 := ⟨by decide +kernel, rfl⟩
theorem d_Dy_hearLine_14 : dz b_Dy_hearLine 14 (.getfield 26) 3 17 := ⟨by decide +kernel, rfl⟩
theorem d_Dy_hearLine_17 : dz b_Dy_hearLine 17 (.getfield 34) 3 20 := ⟨by decide +kernel, rfl⟩
theorem d_Dy_hearLine_20 : dz b_Dy_hearLine 20 (.iload_n 2) 1 21 := ⟨by decide +kernel, rfl⟩
theorem d_Dy_hearLine_21 : dz b_Dy_hearLine 21 (.iaload) 1 22 := ⟨by decide +kernel, rfl⟩
theorem d_Dy_hearLine_22 : dz b_Dy_hearLine 22 (.aload_n 1) 1 23 := ⟨by decide +kernel, rfl⟩
theorem d_Dy_hearLine_23 : dz b_Dy_hearLine 23 (.getfield 92) 3 26 := ⟨by decide +kernel, rfl⟩
theorem d_Dy_hearLine_26 : dj b_Dy_hearLine 26 (.if_icmp .ne) 29 49 := ⟨23, by decide +kernel, rfl, by decide⟩
theorem d_Dy_hearLine_29 : dz b_Dy_hearLine 29 (.aload_n 0) 1 30 := ⟨by decide +kernel, rfl⟩
theorem d_Dy_hearLine_30 : dz b_Dy_hearLine 30 (.getfield 9) 3 33 := ⟨by decide +kernel, rfl⟩
theorem d_Dy_hearLine_33 : dz b_Dy_hearLine 33 (.iload_n 2) 1 34 := ⟨by decide +kernel, rfl⟩
theorem d_Dy_hearLine_34 : dz b_Dy_hearLine 34 (.aload_n 0) 1 35 := ⟨by decide +kernel, rfl⟩
theorem d_Dy_hearLine_35 : dz b_Dy_hearLine 35 (.getfield 9) 3 38 := ⟨by decide +kernel, rfl⟩
theorem d_Dy_hearLine_38 : dz b_Dy_hearLine 38 (.iload_n 2) 1 39 := ⟨by decide +kernel, rfl⟩
theorem d_Dy_hearLine_39 : dz b_Dy_hearLine 39 (.iaload) 1 40 := ⟨by decide +kernel, rfl⟩
theorem d_Dy_hearLine_40 : dz b_Dy_hearLine 40 (.aload_n 1) 1 41 := ⟨by decide +kernel, rfl⟩
theorem d_Dy_hearLine_41 : dz b_Dy_hearLine 41 (.iload_n 2) 1 42 := ⟨by decide +kernel, rfl⟩
theorem d_Dy_hearLine_42 : dz b_Dy_hearLine 42 (.invokevirtual 94) 3 45 := ⟨by decide +kernel, rfl⟩
theorem d_Dy_hearLine_45 : dz b_Dy_hearLine 45 (.invokestatic 97) 3 48 := ⟨by decide +kernel, rfl⟩
theorem d_Dy_hearLine_48 : dz b_Dy_hearLine 48 (.iastore) 1 49 := ⟨by decide +kernel, rfl⟩
theorem d_Dy_hearLine_49 : dz b_Dy_hearLine 49 (.iinc 2 1) 3 52 := ⟨by decide +kernel, rfl⟩
theorem d_Dy_hearLine_52 : dj b_Dy_hearLine 52 (.goto) 55 2 := ⟨(-50), by decide +kernel, rfl, by decide⟩
theorem d_Dy_hearLine_55 : dz b_Dy_hearLine 55 (.aload_n 1) 1 56 := ⟨by decide +kernel, rfl⟩
theorem d_Dy_hearLine_56 : dz b_Dy_hearLine 56 (.getfield 101) 3 59 := ⟨by decide +kernel, rfl⟩
theorem d_Dy_hearLine_59 : dz b_Dy_hearLine 59 (.iconst (-1)) 1 60 := ⟨by decide +kernel, rfl⟩
theorem d_Dy_hearLine_60 : dj b_Dy_hearLine 60 (.if_icmp .eq) 63 106 := ⟨46, by decide +kernel, rfl, by decide⟩
theorem d_Dy_hearLine_63 : dz b_Dy_hearLine 63 (.aload_n 0) 1 64 := ⟨by decide +kernel, rfl⟩
theorem d_Dy_hearLine_64 : dz b_Dy_hearLine 64 (.aload_n 0) 1 65 := ⟨by decide +kernel, rfl⟩
theorem d_Dy_hearLine_65 : dz b_Dy_hearLine 65 (.getfield 22) 3 68 := ⟨by decide +kernel, rfl⟩
theorem d_Dy_hearLine_68 : dj b_Dy_hearLine 68 (.ifCond .ne) 71 90 := ⟨22, by decide +kernel, rfl, by decide⟩
theorem d_Dy_hearLine_71 : dz b_Dy_hearLine 71 (.aload_n 0) 1 72 := ⟨by decide +kernel, rfl⟩
theorem d_Dy_hearLine_72 : dz b_Dy_hearLine 72 (.getfield 18) 3 75 := ⟨by decide +kernel, rfl⟩
theorem d_Dy_hearLine_75 : dz b_Dy_hearLine 75 (.iconst (-1)) 1 76 := ⟨by decide +kernel, rfl⟩
theorem d_Dy_hearLine_76 : dj b_Dy_hearLine 76 (.if_icmp .eq) 79 94 := ⟨18, by decide +kernel, rfl, by decide⟩
theorem d_Dy_hearLine_79 : dz b_Dy_hearLine 79 (.aload_n 0) 1 80 := ⟨by decide +kernel, rfl⟩
theorem d_Dy_hearLine_80 : dz b_Dy_hearLine 80 (.getfield 18) 3 83 := ⟨by decide +kernel, rfl⟩
theorem d_Dy_hearLine_83 : dz b_Dy_hearLine 83 (.aload_n 1) 1 84 := ⟨by decide +kernel, rfl⟩
theorem d_Dy_hearLine_84 : dz b_Dy_hearLine 84 (.getfield 101) 3 87 := ⟨by decide +kernel, rfl⟩
theorem d_Dy_hearLine_87 : dj b_Dy_hearLine 87 (.if_icmp .eq) 90 94 := ⟨7, by decide +kernel, rfl, by decide⟩
theorem d_Dy_hearLine_90 : dz b_Dy_hearLine 90 (.iconst 1) 1 91 := ⟨by decide +kernel, rfl⟩
theorem d_Dy_hearLine_91 : dj b_Dy_hearLine 91 (.goto) 94 95 := ⟨4, by decide +kernel, rfl, by decide⟩
theorem d_Dy_hearLine_94 : dz b_Dy_hearLine 94 (.iconst 0) 1 95 := ⟨by decide +kernel, rfl⟩
theorem d_Dy_hearLine_95 : dz b_Dy_hearLine 95 (.putfield 22) 3 98 := ⟨by decide +kernel, rfl⟩
theorem d_Dy_hearLine_98 : dz b_Dy_hearLine 98 (.aload_n 0) 1 99 := ⟨by decide +kernel, rfl⟩
theorem d_Dy_hearLine_99 : dz b_Dy_hearLine 99 (.aload_n 1) 1 100 := ⟨by decide +kernel, rfl⟩
theorem d_Dy_hearLine_100 : dz b_Dy_hearLine 100 (.getfield 101) 3 103 := ⟨by decide +kernel, rfl⟩
theorem d_Dy_hearLine_103 : dz b_Dy_hearLine 103 (.putfield 18) 3 106 := ⟨by decide +kernel, rfl⟩
theorem d_Dy_hearLine_106 : dz b_Dy_hearLine 106 (.return_) 1 107 := ⟨by decide +kernel, rfl⟩
theorem d_Dy_joined_0 : dz b_Dy_joined 0 (.iload_n 1) 1 1 := ⟨by decide +kernel, rfl⟩
theorem d_Dy_joined_1 : dj b_Dy_joined 1 (.ifCond .eq) 4 10 := ⟨9, by decide +kernel, rfl, by decide⟩
theorem d_Dy_joined_4 : dz b_Dy_joined 4 (.iload_n 0) 1 5 := ⟨by decide +kernel, rfl⟩
theorem d_Dy_joined_5 : dz b_Dy_joined 5 (.bipush 7) 2 7 := ⟨by decide +kernel, rfl⟩
theorem d_Dy_joined_7 : dj b_Dy_joined 7 (.if_icmp .ne) 10 12 := ⟨5, by decide +kernel, rfl, by decide⟩
theorem d_Dy_joined_10 : dz b_Dy_joined 10 (.iload_n 0) 1 11 := ⟨by decide +kernel, rfl⟩
theorem d_Dy_joined_11 : dz b_Dy_joined 11 (.ireturn) 1 12 := ⟨by decide +kernel, rfl⟩
theorem d_Dy_joined_12 : dz b_Dy_joined 12 (.iload_n 0) 1 13 := ⟨by decide +kernel, rfl⟩
theorem d_Dy_joined_13 : dj b_Dy_joined 13 (.ifCond .ne) 16 18 := ⟨5, by decide +kernel, rfl, by decide⟩
theorem d_Dy_joined_16 : dz b_Dy_joined 16 (.iload_n 1) 1 17 := ⟨by decide +kernel, rfl⟩
theorem d_Dy_joined_17 : dz b_Dy_joined 17 (.ireturn) 1 18 := ⟨by decide +kernel, rfl⟩
theorem d_Dy_joined_18 : dz b_Dy_joined 18 (.iload_n 0) 1 19 := ⟨by decide +kernel, rfl⟩
theorem d_Dy_joined_19 : dz b_Dy_joined 19 (.iconst 1) 1 20 := ⟨by decide +kernel, rfl⟩
theorem d_Dy_joined_20 : dj b_Dy_joined 20 (.if_icmp .ne) 23 27 := ⟨7, by decide +kernel, rfl, by decide⟩
theorem d_Dy_joined_23 : dz b_Dy_joined 23 (.iconst 1) 1 24 := ⟨by decide +kernel, rfl⟩
theorem d_Dy_joined_24 : dj b_Dy_joined 24 (.goto) 27 28 := ⟨4, by decide +kernel, rfl, by decide⟩
theorem d_Dy_joined_27 : dz b_Dy_joined 27 (.iconst 0) 1 28 := ⟨by decide +kernel, rfl⟩
theorem d_Dy_joined_28 : dz b_Dy_joined 28 (.iload_n 1) 1 29 := ⟨by decide +kernel, rfl⟩
theorem d_Dy_joined_29 : dz b_Dy_joined 29 (.iconst 1) 1 30 := ⟨by decide +kernel, rfl⟩
theorem d_Dy_joined_30 : dj b_Dy_joined 30 (.if_icmp .ne) 33 37 := ⟨7, by decide +kernel, rfl, by decide⟩
theorem d_Dy_joined_33 : dz b_Dy_joined 33 (.iconst 1) 1 34 := ⟨by decide +kernel, rfl⟩
theorem d_Dy_joined_34 : dj b_Dy_joined 34 (.goto) 37 38 := ⟨4, by decide +kernel, rfl, by decide⟩
theorem d_Dy_joined_37 : dz b_Dy_joined 37 (.iconst 0) 1 38 := ⟨by decide +kernel, rfl⟩
theorem d_Dy_joined_38 : dj b_Dy_joined 38 (.if_icmp .ne) 41 45 := ⟨7, by decide +kernel, rfl, by decide⟩
theorem d_Dy_joined_41 : dz b_Dy_joined 41 (.iload_n 0) 1 42 := ⟨by decide +kernel, rfl⟩
theorem d_Dy_joined_42 : dj b_Dy_joined 42 (.goto) 45 47 := ⟨5, by decide +kernel, rfl, by decide⟩
theorem d_Dy_joined_45 : dz b_Dy_joined 45 (.bipush 7) 2 47 := ⟨by decide +kernel, rfl⟩
theorem d_Dy_joined_47 : dz b_Dy_joined 47 (.ireturn) 1 48 := ⟨by decide +kernel, rfl⟩
theorem d_Dy_narrow_0 : dz b_Dy_narrow 0 (.aload_n 0) 1 1 := ⟨by decide +kernel, rfl⟩
theorem d_Dy_narrow_1 : dz b_Dy_narrow 1 (.getfield 18) 3 4 := ⟨by decide +kernel, rfl⟩
theorem d_Dy_narrow_4 : dz b_Dy_narrow 4 (.iconst (-1)) 1 5 := ⟨by decide +kernel, rfl⟩
theorem d_Dy_narrow_5 : dj b_Dy_narrow 5 (.if_icmp .ne) 8 10 := ⟨5, by decide +kernel, rfl, by decide⟩
theorem d_Dy_narrow_8 : dz b_Dy_narrow 8 (.iconst 0) 1 9 := ⟨by decide +kernel, rfl⟩
theorem d_Dy_narrow_9 : dz b_Dy_narrow 9 (.ireturn) 1 10 := ⟨by decide +kernel, rfl⟩
theorem d_Dy_narrow_10 : dz b_Dy_narrow 10 (.aload_n 0) 1 11 := ⟨by decide +kernel, rfl⟩
theorem d_Dy_narrow_11 : dz b_Dy_narrow 11 (.iconst 0) 1 12 := ⟨by decide +kernel, rfl⟩
theorem d_Dy_narrow_12 : dz b_Dy_narrow 12 (.iload_n 1) 1 13 := ⟨by decide +kernel, rfl⟩
theorem d_Dy_narrow_13 : dz b_Dy_narrow 13 (.invokevirtual 102) 3 16 := ⟨by decide +kernel, rfl⟩
theorem d_Dy_narrow_16 : dz b_Dy_narrow 16 (.istore_n 2) 1 17 := ⟨by decide +kernel, rfl⟩
theorem d_Dy_narrow_17 : dz b_Dy_narrow 17 (.aload_n 0) 1 18 := ⟨by decide +kernel, rfl⟩
theorem d_Dy_narrow_18 : dz b_Dy_narrow 18 (.getfield 18) 3 21 := ⟨by decide +kernel, rfl⟩
theorem d_Dy_narrow_21 : dz b_Dy_narrow 21 (.iconst 2) 1 22 := ⟨by decide +kernel, rfl⟩
theorem d_Dy_narrow_22 : dz b_Dy_narrow 22 (.idiv) 1 23 := ⟨by decide +kernel, rfl⟩
theorem d_Dy_narrow_23 : dz b_Dy_narrow 23 (.aload_n 0) 1 24 := ⟨by decide +kernel, rfl⟩
theorem d_Dy_narrow_24 : dz b_Dy_narrow 24 (.iconst 1) 1 25 := ⟨by decide +kernel, rfl⟩
theorem d_Dy_narrow_25 : dz b_Dy_narrow 25 (.iload_n 1) 1 26 := ⟨by decide +kernel, rfl⟩
theorem d_Dy_narrow_26 : dz b_Dy_narrow 26 (.invokevirtual 102) 3 29 := ⟨by decide +kernel, rfl⟩
theorem d_Dy_narrow_29 : dz b_Dy_narrow 29 (.isub) 1 30 := ⟨by decide +kernel, rfl⟩
theorem d_Dy_narrow_30 : dz b_Dy_narrow 30 (.istore_n 3) 1 31 := ⟨by decide +kernel, rfl⟩
theorem d_Dy_narrow_31 : dz b_Dy_narrow 31 (.aload_n 0) 1 32 := ⟨by decide +kernel, rfl⟩
theorem d_Dy_narrow_32 : dz b_Dy_narrow 32 (.getfield 22) 3 35 := ⟨by decide +kernel, rfl⟩
theorem d_Dy_narrow_35 : dj b_Dy_narrow 35 (.ifCond .ne) 38 57 := ⟨22, by decide +kernel, rfl, by decide⟩
theorem d_Dy_narrow_38 : dz b_Dy_narrow 38 (.aload_n 0) 1 39 := ⟨by decide +kernel, rfl⟩
theorem d_Dy_narrow_39 : dz b_Dy_narrow 39 (.bipush 7) 2 41 := ⟨by decide +kernel, rfl⟩
theorem d_Dy_narrow_41 : dz b_Dy_narrow 41 (.iload_n 1) 1 42 := ⟨by decide +kernel, rfl⟩
theorem d_Dy_narrow_42 : dz b_Dy_narrow 42 (.invokevirtual 102) 3 45 := ⟨by decide +kernel, rfl⟩
theorem d_Dy_narrow_45 : dj b_Dy_narrow 45 (.ifCond .gt) 48 57 := ⟨12, by decide +kernel, rfl, by decide⟩
theorem d_Dy_narrow_48 : dz b_Dy_narrow 48 (.iload_n 3) 1 49 := ⟨by decide +kernel, rfl⟩
theorem d_Dy_narrow_49 : dj b_Dy_narrow 49 (.ifCond .lt) 52 57 := ⟨8, by decide +kernel, rfl, by decide⟩
theorem d_Dy_narrow_52 : dz b_Dy_narrow 52 (.iload_n 3) 1 53 := ⟨by decide +kernel, rfl⟩
theorem d_Dy_narrow_53 : dz b_Dy_narrow 53 (.iload_n 2) 1 54 := ⟨by decide +kernel, rfl⟩
theorem d_Dy_narrow_54 : dj b_Dy_narrow 54 (.if_icmp .le) 57 59 := ⟨5, by decide +kernel, rfl, by decide⟩
theorem d_Dy_narrow_57 : dz b_Dy_narrow 57 (.iconst 1) 1 58 := ⟨by decide +kernel, rfl⟩
theorem d_Dy_narrow_58 : dz b_Dy_narrow 58 (.ireturn) 1 59 := ⟨by decide +kernel, rfl⟩
theorem d_Dy_narrow_59 : dz b_Dy_narrow 59 (.iload_n 3) 1 60 := ⟨by decide +kernel, rfl⟩
theorem d_Dy_narrow_60 : dz b_Dy_narrow 60 (.iload_n 2) 1 61 := ⟨by decide +kernel, rfl⟩
theorem d_Dy_narrow_61 : dj b_Dy_narrow 61 (.if_icmp .ne) 64 73 := ⟨12, by decide +kernel, rfl, by decide⟩
theorem d_Dy_narrow_64 : dz b_Dy_narrow 64 (.aload_n 0) 1 65 := ⟨by decide +kernel, rfl⟩
theorem d_Dy_narrow_65 : dz b_Dy_narrow 65 (.iload_n 1) 1 66 := ⟨by decide +kernel, rfl⟩
theorem d_Dy_narrow_66 : dz b_Dy_narrow 66 (.iconst 1) 1 67 := ⟨by decide +kernel, rfl⟩
theorem d_Dy_narrow_67 : dz b_Dy_narrow 67 (.invokevirtual 105) 3 70 := ⟨by decide +kernel, rfl⟩
theorem d_Dy_narrow_70 : dj b_Dy_narrow 70 (.goto) 73 84 := ⟨14, by decide +kernel, rfl, by decide⟩
theorem d_Dy_narrow_73 : dz b_Dy_narrow 73 (.iload_n 3) 1 74 := ⟨by decide +kernel, rfl⟩
theorem d_Dy_narrow_74 : dj b_Dy_narrow 74 (.ifCond .ne) 77 84 := ⟨10, by decide +kernel, rfl, by decide⟩
theorem d_Dy_narrow_77 : dz b_Dy_narrow 77 (.aload_n 0) 1 78 := ⟨by decide +kernel, rfl⟩
theorem d_Dy_narrow_78 : dz b_Dy_narrow 78 (.iload_n 1) 1 79 := ⟨by decide +kernel, rfl⟩
theorem d_Dy_narrow_79 : dz b_Dy_narrow 79 (.bipush 6) 2 81 := ⟨by decide +kernel, rfl⟩
theorem d_Dy_narrow_81 : dz b_Dy_narrow 81 (.invokevirtual 105) 3 84 := ⟨by decide +kernel, rfl⟩
theorem d_Dy_narrow_84 : dz b_Dy_narrow 84 (.iconst 2) 1 85 := ⟨by decide +kernel, rfl⟩
theorem d_Dy_narrow_85 : dz b_Dy_narrow 85 (.ireturn) 1 86 := ⟨by decide +kernel, rfl⟩
theorem d_Dy_menThatAre_0 : dz b_Dy_menThatAre 0 (.iconst 0) 1 1 := ⟨by decide +kernel, rfl⟩
theorem d_Dy_menThatAre_1 : dz b_Dy_menThatAre 1 (.istore_n 3) 1 2 := ⟨by decide +kernel, rfl⟩
theorem d_Dy_menThatAre_2 : dz b_Dy_menThatAre 2 (.iconst 0) 1 3 := ⟨by decide +kernel, rfl⟩
theorem d_Dy_menThatAre_3 : dz b_Dy_menThatAre 3 (.istore 4) 2 5 := ⟨by decide +kernel, rfl⟩
theorem d_Dy_menThatAre_5 : dz b_Dy_menThatAre 5 (.iload 4) 2 7 := ⟨by decide +kernel, rfl⟩
theorem d_Dy_menThatAre_7 : dz b_Dy_menThatAre 7 (.aload_n 0) 1 8 := ⟨by decide +kernel, rfl⟩
theorem d_Dy_menThatAre_8 : dz b_Dy_menThatAre 8 (.getfield 26) 3 11 := ⟨by decide +kernel, rfl⟩
theorem d_Dy_menThatAre_11 : dz b_Dy_menThatAre 11 (.getfield 89) 3 14 := ⟨by decide +kernel, rfl⟩
theorem d_Dy_menThatAre_14 : dj b_Dy_menThatAre 14 (.if_icmp .ge) 17 51 := ⟨37, by decide +kernel, rfl, by decide⟩
theorem d_Dy_menThatAre_17 : dz b_Dy_menThatAre 17 (.aload_n 0) 1 18 := ⟨by decide +kernel, rfl⟩
theorem d_Dy_menThatAre_18 : dz b_Dy_menThatAre 18 (.getfield 26) 3 21 := ⟨by decide +kernel, rfl⟩
theorem d_Dy_menThatAre_21 : dz b_Dy_menThatAre 21 (.getfield 34) 3 24 := ⟨by decide +kernel, rfl⟩
theorem d_Dy_menThatAre_24 : dz b_Dy_menThatAre 24 (.iload 4) 2 26 := ⟨by decide +kernel, rfl⟩
theorem d_Dy_menThatAre_26 : dz b_Dy_menThatAre 26 (.iaload) 1 27 := ⟨by decide +kernel, rfl⟩
theorem d_Dy_menThatAre_27 : dz b_Dy_menThatAre 27 (.iload_n 2) 1 28 := ⟨by decide +kernel, rfl⟩
theorem d_Dy_menThatAre_28 : dj b_Dy_menThatAre 28 (.if_icmp .ne) 31 45 := ⟨17, by decide +kernel, rfl, by decide⟩
theorem d_Dy_menThatAre_31 : dz b_Dy_menThatAre 31 (.aload_n 0) 1 32 := ⟨by decide +kernel, rfl⟩
theorem d_Dy_menThatAre_32 : dz b_Dy_menThatAre 32 (.getfield 9) 3 35 := ⟨by decide +kernel, rfl⟩
theorem d_Dy_menThatAre_35 : dz b_Dy_menThatAre 35 (.iload 4) 2 37 := ⟨by decide +kernel, rfl⟩
theorem d_Dy_menThatAre_37 : dz b_Dy_menThatAre 37 (.iaload) 1 38 := ⟨by decide +kernel, rfl⟩
theorem d_Dy_menThatAre_38 : dz b_Dy_menThatAre 38 (.iload_n 1) 1 39 := ⟨by decide +kernel, rfl⟩
theorem d_Dy_menThatAre_39 : dj b_Dy_menThatAre 39 (.if_icmp .ne) 42 45 := ⟨6, by decide +kernel, rfl, by decide⟩
theorem d_Dy_menThatAre_42 : dz b_Dy_menThatAre 42 (.iinc 3 1) 3 45 := ⟨by decide +kernel, rfl⟩
theorem d_Dy_menThatAre_45 : dz b_Dy_menThatAre 45 (.iinc 4 1) 3 48 := ⟨by decide +kernel, rfl⟩
theorem d_Dy_menThatAre_48 : dj b_Dy_menThatAre 48 (.goto) 51 5 := ⟨(-43), by decide +kernel, rfl, by decide⟩
theorem d_Dy_menThatAre_51 : dz b_Dy_menThatAre 51 (.iload_n 3) 1 52 := ⟨by decide +kernel, rfl⟩
theorem d_Dy_menThatAre_52 : dz b_Dy_menThatAre 52 (.ireturn) 1 53 := ⟨by decide +kernel, rfl⟩
theorem d_Dy_closeOpen_0 : dz b_Dy_closeOpen 0 (.iconst 0) 1 1 := ⟨by decide +kernel, rfl⟩
theorem d_Dy_closeOpen_1 : dz b_Dy_closeOpen 1 (.istore_n 3) 1 2 := ⟨by decide +kernel, rfl⟩
theorem d_Dy_closeOpen_2 : dz b_Dy_closeOpen 2 (.iload_n 3) 1 3 := ⟨by decide +kernel, rfl⟩
theorem d_Dy_closeOpen_3 : dz b_Dy_closeOpen 3 (.aload_n 0) 1 4 := ⟨by decide +kernel, rfl⟩
theorem d_Dy_closeOpen_4 : dz b_Dy_closeOpen 4 (.getfield 26) 3 7 := ⟨by decide +kernel, rfl⟩
theorem d_Dy_closeOpen_7 : dz b_Dy_closeOpen 7 (.getfield 89) 3 10 := ⟨by decide +kernel, rfl⟩
theorem d_Dy_closeOpen_10 : dj b_Dy_closeOpen 10 (.if_icmp .ge) 13 48 := ⟨38, by decide +kernel, rfl, by decide⟩
theorem d_Dy_closeOpen_13 : dz b_Dy_closeOpen 13 (.aload_n 0) 1 14 := ⟨by decide +kernel, rfl⟩
theorem d_Dy_closeOpen_14 : dz b_Dy_closeOpen 14 (.getfield 26) 3 17 := ⟨by decide +kernel, rfl⟩
theorem d_Dy_closeOpen_17 : dz b_Dy_closeOpen 17 (.getfield 34) 3 20 := ⟨by decide +kernel, rfl⟩
theorem d_Dy_closeOpen_20 : dz b_Dy_closeOpen 20 (.iload_n 3) 1 21 := ⟨by decide +kernel, rfl⟩
theorem d_Dy_closeOpen_21 : dz b_Dy_closeOpen 21 (.iaload) 1 22 := ⟨by decide +kernel, rfl⟩
theorem d_Dy_closeOpen_22 : dz b_Dy_closeOpen 22 (.iload_n 1) 1 23 := ⟨by decide +kernel, rfl⟩
theorem d_Dy_closeOpen_23 : dj b_Dy_closeOpen 23 (.if_icmp .ne) 26 42 := ⟨19, by decide +kernel, rfl, by decide⟩
theorem d_Dy_closeOpen_26 : dz b_Dy_closeOpen 26 (.aload_n 0) 1 27 := ⟨by decide +kernel, rfl⟩
theorem d_Dy_closeOpen_27 : dz b_Dy_closeOpen 27 (.getfield 9) 3 30 := ⟨by decide +kernel, rfl⟩
theorem d_Dy_closeOpen_30 : dz b_Dy_closeOpen 30 (.iload_n 3) 1 31 := ⟨by decide +kernel, rfl⟩
theorem d_Dy_closeOpen_31 : dz b_Dy_closeOpen 31 (.iaload) 1 32 := ⟨by decide +kernel, rfl⟩
theorem d_Dy_closeOpen_32 : dj b_Dy_closeOpen 32 (.ifCond .ne) 35 42 := ⟨10, by decide +kernel, rfl, by decide⟩
theorem d_Dy_closeOpen_35 : dz b_Dy_closeOpen 35 (.aload_n 0) 1 36 := ⟨by decide +kernel, rfl⟩
theorem d_Dy_closeOpen_36 : dz b_Dy_closeOpen 36 (.getfield 9) 3 39 := ⟨by decide +kernel, rfl⟩
theorem d_Dy_closeOpen_39 : dz b_Dy_closeOpen 39 (.iload_n 3) 1 40 := ⟨by decide +kernel, rfl⟩
theorem d_Dy_closeOpen_40 : dz b_Dy_closeOpen 40 (.iload_n 2) 1 41 := ⟨by decide +kernel, rfl⟩
theorem d_Dy_closeOpen_41 : dz b_Dy_closeOpen 41 (.iastore) 1 42 := ⟨by decide +kernel, rfl⟩
theorem d_Dy_closeOpen_42 : dz b_Dy_closeOpen 42 (.iinc 3 1) 3 45 := ⟨by decide +kernel, rfl⟩
theorem d_Dy_closeOpen_45 : dj b_Dy_closeOpen 45 (.goto) 48 2 := ⟨(-43), by decide +kernel, rfl, by decide⟩
theorem d_Dy_closeOpen_48 : dz b_Dy_closeOpen 48 (.return_) 1 49 := ⟨by decide +kernel, rfl⟩
theorem d_De_init_0 : dz b_De_init 0 (.aload_n 0) 1 1 := ⟨by decide +kernel, rfl⟩
theorem d_De_init_1 : dz b_De_init 1 (.invokespecial 3) 3 4 := ⟨by decide +kernel, rfl⟩
theorem d_De_init_4 : dz b_De_init 4 (.aload_n 0) 1 5 := ⟨by decide +kernel, rfl⟩
theorem d_De_init_5 : dz b_De_init 5 (.bipush 60) 2 7 := ⟨by decide +kernel, rfl⟩
theorem d_De_init_7 : dz b_De_init 7 (.newarray .int) 2 9 := ⟨by decide +kernel, rfl⟩
theorem d_De_init_9 : dz b_De_init 9 (.putfield 9) 3 12 := ⟨by decide +kernel, rfl⟩
theorem d_De_init_12 : dz b_De_init 12 (.aload_n 0) 1 13 := ⟨by decide +kernel, rfl⟩
theorem d_De_init_13 : dz b_De_init 13 (.bipush 60) 2 15 := ⟨by decide +kernel, rfl⟩
theorem d_De_init_15 : dz b_De_init 15 (.newarray .int) 2 17 := ⟨by decide +kernel, rfl⟩
theorem d_De_init_17 : dz b_De_init 17 (.putfield 15) 3 20 := ⟨by decide +kernel, rfl⟩
theorem d_De_init_20 : dz b_De_init 20 (.aload_n 0) 1 21 := ⟨by decide +kernel, rfl⟩
theorem d_De_init_21 : dz b_De_init 21 (.bipush 60) 2 23 := ⟨by decide +kernel, rfl⟩
theorem d_De_init_23 : dz b_De_init 23 (.newarray .int) 2 25 := ⟨by decide +kernel, rfl⟩
theorem d_De_init_25 : dz b_De_init 25 (.putfield 18) 3 28 := ⟨by decide +kernel, rfl⟩
theorem d_De_init_28 : dz b_De_init 28 (.aload_n 0) 1 29 := ⟨by decide +kernel, rfl⟩
theorem d_De_init_29 : dz b_De_init 29 (.bipush 60) 2 31 := ⟨by decide +kernel, rfl⟩
theorem d_De_init_31 : dz b_De_init 31 (.newarray .int) 2 33 := ⟨by decide +kernel, rfl⟩
theorem d_De_init_33 : dz b_De_init 33 (.putfield 21) 3 36 := ⟨by decide +kernel, rfl⟩
theorem d_De_init_36 : dz b_De_init 36 (.aload_n 0) 1 37 := ⟨by decide +kernel, rfl⟩
theorem d_De_init_37 : dz b_De_init 37 (.bipush 60) 2 39 := ⟨by decide +kernel, rfl⟩
theorem d_De_init_39 : dz b_De_init 39 (.newarray .int) 2 41 := ⟨by decide +kernel, rfl⟩
theorem d_De_init_41 : dz b_De_init 41 (.putfield 24) 3 44 := ⟨by decide +kernel, rfl⟩
theorem d_De_init_44 : dz b_De_init 44 (.aload_n 0) 1 45 := ⟨by decide +kernel, rfl⟩
theorem d_De_init_45 : dz b_De_init 45 (.bipush 60) 2 47 := ⟨by decide +kernel, rfl⟩
theorem d_De_init_47 : dz b_De_init 47 (.newarray .int) 2 49 := ⟨by decide +kernel, rfl⟩
theorem d_De_init_49 : dz b_De_init 49 (.putfield 27) 3 52 := ⟨by decide +kernel, rfl⟩
theorem d_De_init_52 : dz b_De_init 52 (.aload_n 0) 1 53 := ⟨by decide +kernel, rfl⟩
theorem d_De_init_53 : dz b_De_init 53 (.iconst 0) 1 54 := ⟨by decide +kernel, rfl⟩
theorem d_De_init_54 : dz b_De_init 54 (.putfield 30) 3 57 := ⟨by decide +kernel, rfl⟩
theorem d_De_init_57 : dz b_De_init 57 (.aload_n 0) 1 58 := ⟨by decide +kernel, rfl⟩
theorem d_De_init_58 : dz b_De_init 58 (.bipush 50) 2 60 := ⟨by decide +kernel, rfl⟩
theorem d_De_init_60 : dz b_De_init 60 (.newarray .int) 2 62 := ⟨by decide +kernel, rfl⟩
theorem d_De_init_62 : dz b_De_init 62 (.putfield 34) 3 65 := ⟨by decide +kernel, rfl⟩
theorem d_De_init_65 : dz b_De_init 65 (.aload_n 0) 1 66 := ⟨by decide +kernel, rfl⟩
theorem d_De_init_66 : dz b_De_init 66 (.bipush 12) 2 68 := ⟨by decide +kernel, rfl⟩
theorem d_De_init_68 : dz b_De_init 68 (.newarray .int) 2 70 := ⟨by decide +kernel, rfl⟩
theorem d_De_init_70 : dz b_De_init 70 (.putfield 37) 3 73 := ⟨by decide +kernel, rfl⟩
theorem d_De_init_73 : dz b_De_init 73 (.iconst 0) 1 74 := ⟨by decide +kernel, rfl⟩
theorem d_De_init_74 : dz b_De_init 74 (.istore_n 1) 1 75 := ⟨by decide +kernel, rfl⟩
theorem d_De_init_75 : dz b_De_init 75 (.iload_n 1) 1 76 := ⟨by decide +kernel, rfl⟩
theorem d_De_init_76 : dz b_De_init 76 (.aload_n 0) 1 77 := ⟨by decide +kernel, rfl⟩
theorem d_De_init_77 : dz b_De_init 77 (.getfield 34) 3 80 := ⟨by decide +kernel, rfl⟩
theorem d_De_init_80 : dz b_De_init 80 (.arraylength) 1 81 := ⟨by decide +kernel, rfl⟩
theorem d_De_init_81 : dj b_De_init 81 (.if_icmp .ge) 84 97 := ⟨16, by decide +kernel, rfl, by decide⟩
theorem d_De_init_84 : dz b_De_init 84 (.aload_n 0) 1 85 := ⟨by decide +kernel, rfl⟩
theorem d_De_init_85 : dz b_De_init 85 (.getfield 34) 3 88 := ⟨by decide +kernel, rfl⟩
theorem d_De_init_88 : dz b_De_init 88 (.iload_n 1) 1 89 := ⟨by decide +kernel, rfl⟩
theorem d_De_init_89 : dz b_De_init 89 (.iconst 1) 1 90 := ⟨by decide +kernel, rfl⟩
theorem d_De_init_90 : dz b_De_init 90 (.iastore) 1 91 := ⟨by decide +kernel, rfl⟩
theorem d_De_init_91 : dz b_De_init 91 (.iinc 1 1) 3 94 := ⟨by decide +kernel, rfl⟩
theorem d_De_init_94 : dj b_De_init 94 (.goto) 97 75 := ⟨(-19), by decide +kernel, rfl, by decide⟩
theorem d_De_init_97 : dz b_De_init 97 (.return_) 1 98 := ⟨by decide +kernel, rfl⟩
theorem d_De_setWorth_0 : dz b_De_setWorth 0 (.iload_n 3) 1 1 := ⟨by decide +kernel, rfl⟩
theorem d_De_setWorth_1 : dj b_De_setWorth 1 (.ifCond .lt) 4 11 := ⟨10, by decide +kernel, rfl, by decide⟩
theorem d_De_setWorth_4 : dz b_De_setWorth 4 (.iload_n 3) 1 5 := ⟨by decide +kernel, rfl⟩
theorem d_De_setWorth_5 : dz b_De_setWorth 5 (.sipush 1000) 3 8 := ⟨by decide +kernel, rfl⟩
theorem d_De_setWorth_8 : dj b_De_setWorth 8 (.if_icmp .le) 11 13 := ⟨5, by decide +kernel, rfl, by decide⟩
theorem d_De_setWorth_11 : dz b_De_setWorth 11 (.iconst 0) 1 12 := ⟨by decide +kernel, rfl⟩
theorem d_De_setWorth_12 : dz b_De_setWorth 12 (.ireturn) 1 13 := ⟨by decide +kernel, rfl⟩
theorem d_De_setWorth_13 : dz b_De_setWorth 13 (.aload_n 0) 1 14 := ⟨by decide +kernel, rfl⟩
theorem d_De_setWorth_14 : dz b_De_setWorth 14 (.getfield 34) 3 17 := ⟨by decide +kernel, rfl⟩
theorem d_De_setWorth_17 : dz b_De_setWorth 17 (.iload_n 1) 1 18 := ⟨by decide +kernel, rfl⟩
theorem d_De_setWorth_18 : dz b_De_setWorth 18 (.bipush 10) 2 20 := ⟨by decide +kernel, rfl⟩
theorem d_De_setWorth_20 : dz b_De_setWorth 20 (.imul) 1 21 := ⟨by decide +kernel, rfl⟩
theorem d_De_setWorth_21 : dz b_De_setWorth 21 (.iload_n 2) 1 22 := ⟨by decide +kernel, rfl⟩
theorem d_De_setWorth_22 : dz b_De_setWorth 22 (.iadd) 1 23 := ⟨by decide +kernel, rfl⟩
theorem d_De_setWorth_23 : dz b_De_setWorth 23 (.iload_n 3) 1 24 := ⟨by decide +kernel, rfl⟩
theorem d_De_setWorth_24 : dz b_De_setWorth 24 (.iastore) 1 25 := ⟨by decide +kernel, rfl⟩
theorem d_De_setWorth_25 : dz b_De_setWorth 25 (.iconst 1) 1 26 := ⟨by decide +kernel, rfl⟩
theorem d_De_setWorth_26 : dz b_De_setWorth 26 (.ireturn) 1 27 := ⟨by decide +kernel, rfl⟩
theorem d_De_add_0 : dz b_De_add 0 (.iload 4) 2 2 := ⟨by decide +kernel, rfl⟩
theorem d_De_add_2 : dz b_De_add 2 (.iconst 1) 1 3 := ⟨by decide +kernel, rfl⟩
theorem d_De_add_3 : dj b_De_add 3 (.if_icmp .lt) 6 23 := ⟨20, by decide +kernel, rfl, by decide⟩
theorem d_De_add_6 : dz b_De_add 6 (.iload 4) 2 8 := ⟨by decide +kernel, rfl⟩
theorem d_De_add_8 : dz b_De_add 8 (.sipush 1000) 3 11 := ⟨by decide +kernel, rfl⟩
theorem d_De_add_11 : dj b_De_add 11 (.if_icmp .gt) 14 23 := ⟨12, by decide +kernel, rfl, by decide⟩
theorem d_De_add_14 : dz b_De_add 14 (.aload_n 0) 1 15 := ⟨by decide +kernel, rfl⟩
theorem d_De_add_15 : dz b_De_add 15 (.getfield 30) 3 18 := ⟨by decide +kernel, rfl⟩
theorem d_De_add_18 : dz b_De_add 18 (.bipush 60) 2 20 := ⟨by decide +kernel, rfl⟩
theorem d_De_add_20 : dj b_De_add 20 (.if_icmp .lt) 23 25 := ⟨5, by decide +kernel, rfl, by decide⟩
theorem d_De_add_23 : dz b_De_add 23 (.iconst (-1)) 1 24 := ⟨by decide +kernel, rfl⟩
theorem d_De_add_24 : dz b_De_add 24 (.ireturn) 1 25 := ⟨by decide +kernel, rfl⟩
theorem d_De_add_25 : dz b_De_add 25 (.aload_n 0) 1 26 := ⟨by decide +kernel, rfl⟩
theorem d_De_add_26 : dz b_De_add 26 (.getfield 9) 3 29 := ⟨by decide +kernel, rfl⟩
theorem d_De_add_29 : dz b_De_add 29 (.aload_n 0) 1 30 := ⟨by decide +kernel, rfl⟩
theorem d_De_add_30 : dz b_De_add 30 (.getfield 30) 3 33 := ⟨by decide +kernel, rfl⟩
theorem d_De_add_33 : dz b_De_add 33 (.iload_n 1) 1 34 := ⟨by decide +kernel, rfl⟩
theorem d_De_add_34 : dz b_De_add 34 (.iastore) 1 35 := ⟨by decide +kernel, rfl⟩
theorem d_De_add_35 : dz b_De_add 35 (.aload_n 0) 1 36 := ⟨by decide +kernel, rfl⟩
theorem d_De_add_36 : dz b_De_add 36 (.getfield 15) 3 39 := ⟨by decide +kernel, rfl⟩
theorem d_De_add_39 : dz b_De_add 39 (.aload_n 0) 1 40 := ⟨by decide +kernel, rfl⟩
theorem d_De_add_40 : dz b_De_add 40 (.getfield 30) 3 43 := ⟨by decide +kernel, rfl⟩
theorem d_De_add_43 : dz b_De_add 43 (.iload_n 2) 1 44 := ⟨by decide +kernel, rfl⟩
theorem d_De_add_44 : dz b_De_add 44 (.iastore) 1 45 := ⟨by decide +kernel, rfl⟩
theorem d_De_add_45 : dz b_De_add 45 (.aload_n 0) 1 46 := ⟨by decide +kernel, rfl⟩
theorem d_De_add_46 : dz b_De_add 46 (.getfield 18) 3 49 := ⟨by decide +kernel, rfl⟩
theorem d_De_add_49 : dz b_De_add 49 (.aload_n 0) 1 50 := ⟨by decide +kernel, rfl⟩
theorem d_De_add_50 : dz b_De_add 50 (.getfield 30) 3 53 := ⟨by decide +kernel, rfl⟩
theorem d_De_add_53 : dz b_De_add 53 (.iload_n 3) 1 54 := ⟨by decide +kernel, rfl⟩
theorem d_De_add_54 : dz b_De_add 54 (.iastore) 1 55 := ⟨by decide +kernel, rfl⟩
theorem d_De_add_55 : dz b_De_add 55 (.aload_n 0) 1 56 := ⟨by decide +kernel, rfl⟩
theorem d_De_add_56 : dz b_De_add 56 (.getfield 21) 3 59 := ⟨by decide +kernel, rfl⟩
theorem d_De_add_59 : dz b_De_add 59 (.aload_n 0) 1 60 := ⟨by decide +kernel, rfl⟩
theorem d_De_add_60 : dz b_De_add 60 (.getfield 30) 3 63 := ⟨by decide +kernel, rfl⟩
theorem d_De_add_63 : dz b_De_add 63 (.iload 4) 2 65 := ⟨by decide +kernel, rfl⟩
theorem d_De_add_65 : dz b_De_add 65 (.iastore) 1 66 := ⟨by decide +kernel, rfl⟩
theorem d_De_add_66 : dz b_De_add 66 (.aload_n 0) 1 67 := ⟨by decide +kernel, rfl⟩
theorem d_De_add_67 : dz b_De_add 67 (.getfield 24) 3 70 := ⟨by decide +kernel, rfl⟩
theorem d_De_add_70 : dz b_De_add 70 (.aload_n 0) 1 71 := ⟨by decide +kernel, rfl⟩
theorem d_De_add_71 : dz b_De_add 71 (.getfield 30) 3 74 := ⟨by decide +kernel, rfl⟩
theorem d_De_add_74 : dz b_De_add 74 (.iload 5) 2 76 := ⟨by decide +kernel, rfl⟩
theorem d_De_add_76 : dz b_De_add 76 (.iastore) 1 77 := ⟨by decide +kernel, rfl⟩
theorem d_De_add_77 : dz b_De_add 77 (.aload_n 0) 1 78 := ⟨by decide +kernel, rfl⟩
theorem d_De_add_78 : dz b_De_add 78 (.getfield 27) 3 81 := ⟨by decide +kernel, rfl⟩
theorem d_De_add_81 : dz b_De_add 81 (.aload_n 0) 1 82 := ⟨by decide +kernel, rfl⟩
theorem d_De_add_82 : dz b_De_add 82 (.getfield 30) 3 85 := ⟨by decide +kernel, rfl⟩
theorem d_De_add_85 : dz b_De_add 85 (.sipush 3600) 3 88 := ⟨by decide +kernel, rfl⟩
theorem d_De_add_88 : dz b_De_add 88 (.iastore) 1 89 := ⟨by decide +kernel, rfl⟩
theorem d_De_add_89 : dz b_De_add 89 (.aload_n 0) 1 90 := ⟨by decide +kernel, rfl⟩
theorem d_De_add_90 : dz b_De_add 90 (.dup) 1 91 := ⟨by decide +kernel, rfl⟩
theorem d_De_add_91 : dz b_De_add 91 (.getfield 30) 3 94 := ⟨by decide +kernel, rfl⟩
theorem d_De_add_94 : dz b_De_add 94 (.iconst 1) 1 95 := ⟨by decide +kernel, rfl⟩
theorem d_De_add_95 : dz b_De_add 95 (.iadd) 1 96 := ⟨by decide +kernel, rfl⟩
theorem d_De_add_96 : dz b_De_add 96 (.putfield 30) 3 99 := ⟨by decide +kernel, rfl⟩
theorem d_De_add_99 : dz b_De_add 99 (.aload_n 0) 1 100 := ⟨by decide +kernel, rfl⟩
theorem d_De_add_100 : dz b_De_add 100 (.getfield 30) 3 103 := ⟨by decide +kernel, rfl⟩
theorem d_De_add_103 : dz b_De_add 103 (.iconst 1) 1 104 := ⟨by decide +kernel, rfl⟩
theorem d_De_add_104 : dz b_De_add 104 (.isub) 1 105 := ⟨by decide +kernel, rfl⟩
theorem d_De_add_105 : dz b_De_add 105 (.ireturn) 1 106 := ⟨by decide +kernel, rfl⟩
theorem d_De_setPaid_0 : dz b_De_setPaid 0 (.iload_n 1) 1 1 := ⟨by decide +kernel, rfl⟩
theorem d_De_setPaid_1 : dz b_De_setPaid 1 (.aload_n 0) 1 2 := ⟨by decide +kernel, rfl⟩
theorem d_De_setPaid_2 : dz b_De_setPaid 2 (.getfield 30) 3 5 := ⟨by decide +kernel, rfl⟩
theorem d_De_setPaid_5 : dz b_De_setPaid 5 (.invokestatic 40) 3 8 := ⟨by decide +kernel, rfl⟩
theorem d_De_setPaid_8 : dj b_De_setPaid 8 (.ifCond .eq) 11 33 := ⟨25, by decide +kernel, rfl, by decide⟩
theorem d_De_setPaid_11 : dz b_De_setPaid 11 (.aload_n 0) 1 12 := ⟨by decide +kernel, rfl⟩
theorem d_De_setPaid_12 : dz b_De_setPaid 12 (.getfield 27) 3 15 := ⟨by decide +kernel, rfl⟩
theorem d_De_setPaid_15 : dz b_De_setPaid 15 (.iload_n 1) 1 16 := ⟨by decide +kernel, rfl⟩
theorem d_De_setPaid_16 : dz b_De_setPaid 16 (.iaload) 1 17 := ⟨by decide +kernel, rfl⟩
theorem d_De_setPaid_17 : dz b_De_setPaid 17 (.sipush 3600) 3 20 := ⟨by decide +kernel, rfl⟩
theorem d_De_setPaid_20 : dj b_De_setPaid 20 (.if_icmp .ne) 23 33 := ⟨13, by decide +kernel, rfl, by decide⟩
theorem d_De_setPaid_23 : dz b_De_setPaid 23 (.iload_n 2) 1 24 := ⟨by decide +kernel, rfl⟩
theorem d_De_setPaid_24 : dz b_De_setPaid 24 (.aload_n 0) 1 25 := ⟨by decide +kernel, rfl⟩
theorem d_De_setPaid_25 : dz b_De_setPaid 25 (.getfield 24) 3 28 := ⟨by decide +kernel, rfl⟩
theorem d_De_setPaid_28 : dz b_De_setPaid 28 (.iload_n 1) 1 29 := ⟨by decide +kernel, rfl⟩
theorem d_De_setPaid_29 : dz b_De_setPaid 29 (.iaload) 1 30 := ⟨by decide +kernel, rfl⟩
theorem d_De_setPaid_30 : dj b_De_setPaid 30 (.if_icmp .ge) 33 35 := ⟨5, by decide +kernel, rfl, by decide⟩
theorem d_De_setPaid_33 : dz b_De_setPaid 33 (.iconst 0) 1 34 := ⟨by decide +kernel, rfl⟩
theorem d_De_setPaid_34 : dz b_De_setPaid 34 (.ireturn) 1 35 := ⟨by decide +kernel, rfl⟩
theorem d_De_setPaid_35 : dz b_De_setPaid 35 (.aload_n 0) 1 36 := ⟨by decide +kernel, rfl⟩
theorem d_De_setPaid_36 : dz b_De_setPaid 36 (.getfield 27) 3 39 := ⟨by decide +kernel, rfl⟩
theorem d_De_setPaid_39 : dz b_De_setPaid 39 (.iload_n 1) 1 40 := ⟨by decide +kernel, rfl⟩
theorem d_De_setPaid_40 : dz b_De_setPaid 40 (.iload_n 2) 1 41 := ⟨by decide +kernel, rfl⟩
theorem d_De_setPaid_41 : dz b_De_setPaid 41 (.iastore) 1 42 := ⟨by decide +kernel, rfl⟩
theorem d_De_setPaid_42 : dz b_De_setPaid 42 (.iconst 1) 1 43 := ⟨by decide +kernel, rfl⟩
theorem d_De_setPaid_43 : dz b_De_setPaid 43 (.ireturn) 1 44 := ⟨by decide +kernel, rfl⟩
theorem d_De_balancesOn_0 : dz b_De_balancesOn 0 (.iconst 0) 1 1 := ⟨by decide +kernel, rfl⟩
theorem d_De_balancesOn_1 : dz b_De_balancesOn 1 (.istore_n 2) 1 2 := ⟨by decide +kernel, rfl⟩
theorem d_De_balancesOn_2 : dz b_De_balancesOn 2 (.iload_n 2) 1 3 := ⟨by decide +kernel, rfl⟩
theorem d_De_balancesOn_3 : dz b_De_balancesOn 3 (.bipush 12) 2 5 := ⟨by decide +kernel, rfl⟩
theorem d_De_balancesOn_5 : dj b_De_balancesOn 5 (.if_icmp .ge) 8 21 := ⟨16, by decide +kernel, rfl, by decide⟩
theorem d_De_balancesOn_8 : dz b_De_balancesOn 8 (.aload_n 0) 1 9 := ⟨by decide +kernel, rfl⟩
theorem d_De_balancesOn_9 : dz b_De_balancesOn 9 (.getfield 37) 3 12 := ⟨by decide +kernel, rfl⟩
theorem d_De_balancesOn_12 : dz b_De_balancesOn 12 (.iload_n 2) 1 13 := ⟨by decide +kernel, rfl⟩
theorem d_De_balancesOn_13 : dz b_De_balancesOn 13 (.iconst 0) 1 14 := ⟨by decide +kernel, rfl⟩
theorem d_De_balancesOn_14 : dz b_De_balancesOn 14 (.iastore) 1 15 := ⟨by decide +kernel, rfl⟩
theorem d_De_balancesOn_15 : dz b_De_balancesOn 15 (.iinc 2 1) 3 18 := ⟨by decide +kernel, rfl⟩
theorem d_De_balancesOn_18 : dj b_De_balancesOn 18 (.goto) 21 2 := ⟨(-16), by decide +kernel, rfl, by decide⟩
theorem d_De_balancesOn_21 : dz b_De_balancesOn 21 (.iconst 0) 1 22 := ⟨by decide +kernel, rfl⟩
theorem d_De_balancesOn_22 : dz b_De_balancesOn 22 (.istore_n 2) 1 23 := ⟨by decide +kernel, rfl⟩
theorem d_De_balancesOn_23 : dz b_De_balancesOn 23 (.iload_n 2) 1 24 := ⟨by decide +kernel, rfl⟩
theorem d_De_balancesOn_24 : dz b_De_balancesOn 24 (.aload_n 0) 1 25 := ⟨by decide +kernel, rfl⟩
theorem d_De_balancesOn_25 : dz b_De_balancesOn 25 (.getfield 30) 3 28 := ⟨by decide +kernel, rfl⟩
theorem d_De_balancesOn_28 : dj b_De_balancesOn 28 (.if_icmp .ge) 31 120 := ⟨92, by decide +kernel, rfl, by decide⟩
theorem d_De_balancesOn_31 : dz b_De_balancesOn 31 (.aload_n 0) 1 32 := ⟨by decide +kernel, rfl⟩
theorem d_De_balancesOn_32 : dz b_De_balancesOn 32 (.getfield 24) 3 35 := ⟨by decide +kernel, rfl⟩
theorem d_De_balancesOn_35 : dz b_De_balancesOn 35 (.iload_n 2) 1 36 := ⟨by decide +kernel, rfl⟩
theorem d_De_balancesOn_36 : dz b_De_balancesOn 36 (.iaload) 1 37 := ⟨by decide +kernel, rfl⟩
theorem d_De_balancesOn_37 : dz b_De_balancesOn 37 (.iload_n 1) 1 38 := ⟨by decide +kernel, rfl⟩
theorem d_De_balancesOn_38 : dj b_De_balancesOn 38 (.if_icmp .gt) 41 114 := ⟨76, by decide +kernel, rfl, by decide⟩
theorem d_De_balancesOn_41 : dz b_De_balancesOn 41 (.iload_n 1) 1 42 := ⟨by decide +kernel, rfl⟩
theorem d_De_balancesOn_42 : dz b_De_balancesOn 42 (.aload_n 0) 1 43 := ⟨by decide +kernel, rfl⟩
theorem d_De_balancesOn_43 : dz b_De_balancesOn 43 (.getfield 27) 3 46 := ⟨by decide +kernel, rfl⟩
theorem d_De_balancesOn_46 : dz b_De_balancesOn 46 (.iload_n 2) 1 47 := ⟨by decide +kernel, rfl⟩
theorem d_De_balancesOn_47 : dz b_De_balancesOn 47 (.iaload) 1 48 := ⟨by decide +kernel, rfl⟩
theorem d_De_balancesOn_48 : dj b_De_balancesOn 48 (.if_icmp .ge) 51 114 := ⟨66, by decide +kernel, rfl, by decide⟩
theorem d_De_balancesOn_51 : dz b_De_balancesOn 51 (.aload_n 0) 1 52 := ⟨by decide +kernel, rfl⟩
theorem d_De_balancesOn_52 : dz b_De_balancesOn 52 (.getfield 21) 3 55 := ⟨by decide +kernel, rfl⟩
theorem d_De_balancesOn_55 : dz b_De_balancesOn 55 (.iload_n 2) 1 56 := ⟨by decide +kernel, rfl⟩
theorem d_De_balancesOn_56 : dz b_De_balancesOn 56 (.iaload) 1 57 := ⟨by decide +kernel, rfl⟩
theorem d_De_balancesOn_57 : dz b_De_balancesOn 57 (.aload_n 0) 1 58 := ⟨by decide +kernel, rfl⟩
theorem d_De_balancesOn_58 : dz b_De_balancesOn 58 (.getfield 34) 3 61 := ⟨by decide +kernel, rfl⟩
theorem d_De_balancesOn_61 : dz b_De_balancesOn 61 (.aload_n 0) 1 62 := ⟨by decide +kernel, rfl⟩
theorem d_De_balancesOn_62 : dz b_De_balancesOn 62 (.getfield 18) 3 65 := ⟨by decide +kernel, rfl⟩
theorem d_De_balancesOn_65 : dz b_De_balancesOn 65 (.iload_n 2) 1 66 := ⟨by decide +kernel, rfl⟩
theorem d_De_balancesOn_66 : dz b_De_balancesOn 66 (.iaload) 1 67 := ⟨by decide +kernel, rfl⟩
theorem d_De_balancesOn_67 : dz b_De_balancesOn 67 (.bipush 10) 2 69 := ⟨by decide +kernel, rfl⟩
theorem d_De_balancesOn_69 : dz b_De_balancesOn 69 (.imul) 1 70 := ⟨by decide +kernel, rfl⟩
theorem d_De_balancesOn_70 : dz b_De_balancesOn 70 (.aload_n 0) 1 71 := ⟨by decide +kernel, rfl⟩
theorem d_De_balancesOn_71 : dz b_De_balancesOn 71 (.getfield 24) 3 74 := ⟨by decide +kernel, rfl⟩
theorem d_De_balancesOn_74 : dz b_De_balancesOn 74 (.iload_n 2) 1 75 := ⟨by decide +kernel, rfl⟩
theorem d_De_balancesOn_75 : dz b_De_balancesOn 75 (.iaload) 1 76 := ⟨by decide +kernel, rfl⟩
theorem d_De_balancesOn_76 : dz b_De_balancesOn 76 (.sipush 360) 3 79 := ⟨by decide +kernel, rfl⟩
theorem d_De_balancesOn_79 : dz b_De_balancesOn 79 (.idiv) 1 80 := ⟨by decide +kernel, rfl⟩
theorem d_De_balancesOn_80 : dz b_De_balancesOn 80 (.iadd) 1 81 := ⟨by decide +kernel, rfl⟩
theorem d_De_balancesOn_81 : dz b_De_balancesOn 81 (.iaload) 1 82 := ⟨by decide +kernel, rfl⟩
theorem d_De_balancesOn_82 : dz b_De_balancesOn 82 (.imul) 1 83 := ⟨by decide +kernel, rfl⟩
theorem d_De_balancesOn_83 : dz b_De_balancesOn 83 (.istore_n 3) 1 84 := ⟨by decide +kernel, rfl⟩
theorem d_De_balancesOn_84 : dz b_De_balancesOn 84 (.aload_n 0) 1 85 := ⟨by decide +kernel, rfl⟩
theorem d_De_balancesOn_85 : dz b_De_balancesOn 85 (.getfield 37) 3 88 := ⟨by decide +kernel, rfl⟩
theorem d_De_balancesOn_88 : dz b_De_balancesOn 88 (.aload_n 0) 1 89 := ⟨by decide +kernel, rfl⟩
theorem d_De_balancesOn_89 : dz b_De_balancesOn 89 (.getfield 15) 3 92 := ⟨by decide +kernel, rfl⟩
theorem d_De_balancesOn_92 : dz b_De_balancesOn 92 (.iload_n 2) 1 93 := ⟨by decide +kernel, rfl⟩
theorem d_De_balancesOn_93 : dz b_De_balancesOn 93 (.iaload) 1 94 := ⟨by decide +kernel, rfl⟩
theorem d_De_balancesOn_94 : dz b_De_balancesOn 94 (.dup2) 1 95 := ⟨by decide +kernel, rfl⟩
theorem d_De_balancesOn_95 : dz b_De_balancesOn 95 (.iaload) 1 96 := ⟨by decide +kernel, rfl⟩
theorem d_De_balancesOn_96 : dz b_De_balancesOn 96 (.iload_n 3) 1 97 := ⟨by decide +kernel, rfl⟩
theorem d_De_balancesOn_97 : dz b_De_balancesOn 97 (.iadd) 1 98 := ⟨by decide +kernel, rfl⟩
theorem d_De_balancesOn_98 : dz b_De_balancesOn 98 (.iastore) 1 99 := ⟨by decide +kernel, rfl⟩
theorem d_De_balancesOn_99 : dz b_De_balancesOn 99 (.aload_n 0) 1 100 := ⟨by decide +kernel, rfl⟩
theorem d_De_balancesOn_100 : dz b_De_balancesOn 100 (.getfield 37) 3 103 := ⟨by decide +kernel, rfl⟩
theorem d_De_balancesOn_103 : dz b_De_balancesOn 103 (.aload_n 0) 1 104 := ⟨by decide +kernel, rfl⟩
theorem d_De_balancesOn_104 : dz b_De_balancesOn 104 (.getfield 9) 3 107 := ⟨by decide +kernel, rfl⟩
theorem d_De_balancesOn_107 : dz b_De_balancesOn 107 (.iload_n 2) 1 108 := ⟨by decide +kernel, rfl⟩
theorem d_De_balancesOn_108 : dz b_De_balancesOn 108 (.iaload) 1 109 := ⟨by decide +kernel, rfl⟩
theorem d_De_balancesOn_109 : dz b_De_balancesOn 109 (.dup2) 1 110 := ⟨by decide +kernel, rfl⟩
theorem d_De_balancesOn_110 : dz b_De_balancesOn 110 (.iaload) 1 111 := ⟨by decide +kernel, rfl⟩
theorem d_De_balancesOn_111 : dz b_De_balancesOn 111 (.iload_n 3) 1 112 := ⟨by decide +kernel, rfl⟩
theorem d_De_balancesOn_112 : dz b_De_balancesOn 112 (.isub) 1 113 := ⟨by decide +kernel, rfl⟩
theorem d_De_balancesOn_113 : dz b_De_balancesOn 113 (.iastore) 1 114 := ⟨by decide +kernel, rfl⟩
theorem d_De_balancesOn_114 : dz b_De_balancesOn 114 (.iinc 2 1) 3 117 := ⟨by decide +kernel, rfl⟩
theorem d_De_balancesOn_117 : dj b_De_balancesOn 117 (.goto) 120 23 := ⟨(-94), by decide +kernel, rfl, by decide⟩
theorem d_De_balancesOn_120 : dz b_De_balancesOn 120 (.aload_n 0) 1 121 := ⟨by decide +kernel, rfl⟩
theorem d_De_balancesOn_121 : dz b_De_balancesOn 121 (.getfield 37) 3 124 := ⟨by decide +kernel, rfl⟩
theorem d_De_balancesOn_124 : dz b_De_balancesOn 124 (.areturn) 1 125 := ⟨by decide +kernel, rfl⟩
theorem d_Fk_init_0 : dz b_Fk_init 0 (.aload_n 0) 1 1 := ⟨by decide +kernel, rfl⟩
theorem d_Fk_init_1 : dz b_Fk_init 1 (.invokespecial 1) 3 4 := ⟨by decide +kernel, rfl⟩
theorem d_Fk_init_4 : dz b_Fk_init 4 (.aload_n 0) 1 5 := ⟨by decide +kernel, rfl⟩
theorem d_Fk_init_5 : dz b_Fk_init 5 (.new 7) 3 8 := ⟨by decide +kernel, rfl⟩
theorem d_Fk_init_8 : dz b_Fk_init 8 (.dup) 1 9 := ⟨by decide +kernel, rfl⟩
theorem d_Fk_init_9 : dz b_Fk_init 9 (.invokespecial 9) 3 12 := ⟨by decide +kernel, rfl⟩
theorem d_Fk_init_12 : dz b_Fk_init 12 (.putfield 10) 3 15 := ⟨by decide +kernel, rfl⟩
theorem d_Fk_init_15 : dz b_Fk_init 15 (.aload_n 0) 1 16 := ⟨by decide +kernel, rfl⟩
theorem d_Fk_init_16 : dz b_Fk_init 16 (.iconst 0) 1 17 := ⟨by decide +kernel, rfl⟩
theorem d_Fk_init_17 : dz b_Fk_init 17 (.putfield 16) 3 20 := ⟨by decide +kernel, rfl⟩
theorem d_Fk_init_20 : dz b_Fk_init 20 (.aload_n 0) 1 21 := ⟨by decide +kernel, rfl⟩
theorem d_Fk_init_21 : dz b_Fk_init 21 (.iconst 0) 1 22 := ⟨by decide +kernel, rfl⟩
theorem d_Fk_init_22 : dz b_Fk_init 22 (.putfield 20) 3 25 := ⟨by decide +kernel, rfl⟩
theorem d_Fk_init_25 : dz b_Fk_init 25 (.aload_n 0) 1 26 := ⟨by decide +kernel, rfl⟩
theorem d_Fk_init_26 : dz b_Fk_init 26 (.iload_n 1) 1 27 := ⟨by decide +kernel, rfl⟩
theorem d_Fk_init_27 : dz b_Fk_init 27 (.putfield 24) 3 30 := ⟨by decide +kernel, rfl⟩
theorem d_Fk_init_30 : dz b_Fk_init 30 (.return_) 1 31 := ⟨by decide +kernel, rfl⟩
theorem d_Fk_counts_0 : dz b_Fk_counts 0 (.aload_n 0) 1 1 := ⟨by decide +kernel, rfl⟩
theorem d_Fk_counts_1 : dz b_Fk_counts 1 (.getfield 24) 3 4 := ⟨by decide +kernel, rfl⟩
theorem d_Fk_counts_4 : dz b_Fk_counts 4 (.iload_n 1) 1 5 := ⟨by decide +kernel, rfl⟩
theorem d_Fk_counts_5 : dj b_Fk_counts 5 (.if_icmp .gt) 8 27 := ⟨22, by decide +kernel, rfl, by decide⟩
theorem d_Fk_counts_8 : dz b_Fk_counts 8 (.aload_n 0) 1 9 := ⟨by decide +kernel, rfl⟩
theorem d_Fk_counts_9 : dz b_Fk_counts 9 (.getfield 16) 3 12 := ⟨by decide +kernel, rfl⟩
theorem d_Fk_counts_12 : dj b_Fk_counts 12 (.ifCond .eq) 15 23 := ⟨11, by decide +kernel, rfl, by decide⟩
theorem d_Fk_counts_15 : dz b_Fk_counts 15 (.aload_n 0) 1 16 := ⟨by decide +kernel, rfl⟩
theorem d_Fk_counts_16 : dz b_Fk_counts 16 (.getfield 20) 3 19 := ⟨by decide +kernel, rfl⟩
theorem d_Fk_counts_19 : dz b_Fk_counts 19 (.iload_n 1) 1 20 := ⟨by decide +kernel, rfl⟩
theorem d_Fk_counts_20 : dj b_Fk_counts 20 (.if_icmp .le) 23 27 := ⟨7, by decide +kernel, rfl, by decide⟩
theorem d_Fk_counts_23 : dz b_Fk_counts 23 (.iconst 1) 1 24 := ⟨by decide +kernel, rfl⟩
theorem d_Fk_counts_24 : dj b_Fk_counts 24 (.goto) 27 28 := ⟨4, by decide +kernel, rfl, by decide⟩
theorem d_Fk_counts_27 : dz b_Fk_counts 27 (.iconst 0) 1 28 := ⟨by decide +kernel, rfl⟩
theorem d_Fk_counts_28 : dz b_Fk_counts 28 (.ireturn) 1 29 := ⟨by decide +kernel, rfl⟩
theorem d_Re_init_0 : dz b_Re_init 0 (.aload_n 0) 1 1 := ⟨by decide +kernel, rfl⟩
theorem d_Re_init_1 : dz b_Re_init 1 (.invokespecial 3) 3 4 := ⟨by decide +kernel, rfl⟩
theorem d_Re_init_4 : dz b_Re_init 4 (.aload_n 0) 1 5 := ⟨by decide +kernel, rfl⟩
theorem d_Re_init_5 : dz b_Re_init 5 (.iconst 0) 1 6 := ⟨by decide +kernel, rfl⟩
theorem d_Re_init_6 : dz b_Re_init 6 (.putfield 9) 3 9 := ⟨by decide +kernel, rfl⟩
theorem d_Re_init_9 : dz b_Re_init 9 (.aload_n 0) 1 10 := ⟨by decide +kernel, rfl⟩
theorem d_Re_init_10 : dz b_Re_init 10 (.iconst (-1)) 1 11 := ⟨by decide +kernel, rfl⟩
theorem d_Re_init_11 : dz b_Re_init 11 (.putfield 15) 3 14 := ⟨by decide +kernel, rfl⟩
theorem d_Re_init_14 : dz b_Re_init 14 (.aload_n 0) 1 15 := ⟨by decide +kernel, rfl⟩
theorem d_Re_init_15 : dz b_Re_init 15 (.iconst 0) 1 16 := ⟨by decide +kernel, rfl⟩
theorem d_Re_init_16 : dz b_Re_init 16 (.putfield 18) 3 19 := ⟨by decide +kernel, rfl⟩
theorem d_Re_init_19 : dz b_Re_init 19 (.aload_n 0) 1 20 := ⟨by decide +kernel, rfl⟩
theorem d_Re_init_20 : dz b_Re_init 20 (.iconst 0) 1 21 := ⟨by decide +kernel, rfl⟩
theorem d_Re_init_21 : dz b_Re_init 21 (.putfield 21) 3 24 := ⟨by decide +kernel, rfl⟩
theorem d_Re_init_24 : dz b_Re_init 24 (.aload_n 0) 1 25 := ⟨by decide +kernel, rfl⟩
theorem d_Re_init_25 : dz b_Re_init 25 (.new 24) 3 28 := ⟨by decide +kernel, rfl⟩
theorem d_Re_init_28 : dz b_Re_init 28 (.dup) 1 29 := ⟨by decide +kernel, rfl⟩
theorem d_Re_init_29 : dz b_Re_init 29 (.iconst 0) 1 30 := ⟨by decide +kernel, rfl⟩
theorem d_Re_init_30 : dz b_Re_init 30 (.iconst 0) 1 31 := ⟨by decide +kernel, rfl⟩
theorem d_Re_init_31 : dz b_Re_init 31 (.invokespecial 26) 3 34 := ⟨by decide +kernel, rfl⟩
theorem d_Re_init_34 : dz b_Re_init 34 (.putfield 29) 3 37 := ⟨by decide +kernel, rfl⟩
theorem d_Re_init_37 : dz b_Re_init 37 (.aload_n 0) 1 38 := ⟨by decide +kernel, rfl⟩
theorem d_Re_init_38 : dz b_Re_init 38 (.iconst 0) 1 39 := ⟨by decide +kernel, rfl⟩
theorem d_Re_init_39 : dz b_Re_init 39 (.putfield 33) 3 42 := ⟨by decide +kernel, rfl⟩
theorem d_Re_init_42 : dz b_Re_init 42 (.aload_n 0) 1 43 := ⟨by decide +kernel, rfl⟩
theorem d_Re_init_43 : dz b_Re_init 43 (.new 36) 3 46 := ⟨by decide +kernel, rfl⟩
theorem d_Re_init_46 : dz b_Re_init 46 (.dup) 1 47 := ⟨by decide +kernel, rfl⟩
theorem d_Re_init_47 : dz b_Re_init 47 (.aload_n 1) 1 48 := ⟨by decide +kernel, rfl⟩
theorem d_Re_init_48 : dz b_Re_init 48 (.invokespecial 38) 3 51 := ⟨by decide +kernel, rfl⟩
theorem d_Re_init_51 : dz b_Re_init 51 (.putfield 41) 3 54 := ⟨by decide +kernel, rfl⟩
theorem d_Re_init_54 : dz b_Re_init 54 (.aload_n 0) 1 55 := ⟨by decide +kernel, rfl⟩
theorem d_Re_init_55 : dz b_Re_init 55 (.aload_n 2) 1 56 := ⟨by decide +kernel, rfl⟩
theorem d_Re_init_56 : dz b_Re_init 56 (.putfield 45) 3 59 := ⟨by decide +kernel, rfl⟩
theorem d_Re_init_59 : dz b_Re_init 59 (.return_) 1 60 := ⟨by decide +kernel, rfl⟩
theorem d_Re_read_0 : dz b_Re_read 0 (.aload_n 0) 1 1 := ⟨by decide +kernel, rfl⟩
theorem d_Re_read_1 : dz b_Re_read 1 (.iconst 0) 1 2 := ⟨by decide +kernel, rfl⟩
theorem d_Re_read_2 : dz b_Re_read 2 (.putfield 9) 3 5 := ⟨by decide +kernel, rfl⟩
theorem d_Re_read_5 : dz b_Re_read 5 (.aload_n 0) 1 6 := ⟨by decide +kernel, rfl⟩
theorem d_Re_read_6 : dz b_Re_read 6 (.iconst (-1)) 1 7 := ⟨by decide +kernel, rfl⟩
theorem d_Re_read_7 : dz b_Re_read 7 (.putfield 15) 3 10 := ⟨by decide +kernel, rfl⟩
theorem d_Re_read_10 : dz b_Re_read 10 (.aload_n 0) 1 11 := ⟨by decide +kernel, rfl⟩
theorem d_Re_read_11 : dz b_Re_read 11 (.iconst 0) 1 12 := ⟨by decide +kernel, rfl⟩
theorem d_Re_read_12 : dz b_Re_read 12 (.putfield 18) 3 15 := ⟨by decide +kernel, rfl⟩
theorem d_Re_read_15 : dz b_Re_read 15 (.aload_n 0) 1 16 := ⟨by decide +kernel, rfl⟩
theorem d_Re_read_16 : dz b_Re_read 16 (.getfield 41) 3 19 := ⟨by decide +kernel, rfl⟩
theorem d_Re_read_19 : dz b_Re_read 19 (.invokevirtual 49) 3 22 := ⟨by decide +kernel, rfl⟩
theorem d_Re_read_22 : dz b_Re_read 22 (.iconst 0) 1 23 := ⟨by decide +kernel, rfl⟩
theorem d_Re_read_23 : dz b_Re_read 23 (.istore_n 2) 1 24 := ⟨by decide +kernel, rfl⟩
theorem d_Re_read_24 : dz b_Re_read 24 (.iload_n 2) 1 25 := ⟨by decide +kernel, rfl⟩
theorem d_Re_read_25 : dz b_Re_read 25 (.sipush 300) 3 28 := ⟨by decide +kernel, rfl⟩
theorem d_Re_read_28 : dj b_Re_read 28 (.if_icmp .gt) 31 92 := ⟨64, by decide +kernel, rfl, by decide⟩
theorem d_Re_read_31 : dz b_Re_read 31 (.aload_n 0) 1 32 := ⟨by decide +kernel, rfl⟩
theorem d_Re_read_32 : dz b_Re_read 32 (.getfield 41) 3 35 := ⟨by decide +kernel, rfl⟩
theorem d_Re_read_35 : dz b_Re_read 35 (.invokevirtual 52) 3 38 := ⟨by decide +kernel, rfl⟩
theorem d_Re_read_38 : dz b_Re_read 38 (.aload_n 0) 1 39 := ⟨by decide +kernel, rfl⟩
theorem d_Re_read_39 : dz b_Re_read 39 (.getfield 41) 3 42 := ⟨by decide +kernel, rfl⟩
theorem d_Re_read_42 : dz b_Re_read 42 (.getfield 55) 3 45 := ⟨by decide +kernel, rfl⟩
theorem d_Re_read_45 : dj b_Re_read 45 (.ifCond .ne) 48 57 := ⟨12, by decide +kernel, rfl, by decide⟩
theorem d_Re_read_48 : dz b_Re_read 48 (.aload_n 0) 1 49 := ⟨by decide +kernel, rfl⟩
theorem d_Re_read_49 : dz b_Re_read 49 (.getfield 18) 3 52 := ⟨by decide +kernel, rfl⟩
theorem d_Re_read_52 : dj b_Re_read 52 (.ifCond .ne) 55 57 := ⟨5, by decide +kernel, rfl, by decide⟩
theorem d_Re_read_55 : dz b_Re_read 55 (.iconst 1) 1 56 := ⟨by decide +kernel, rfl⟩
theorem d_Re_read_56 : dz b_Re_read 56 (.ireturn) 1 57 := ⟨by decide +kernel, rfl⟩
theorem d_Re_read_57 : dz b_Re_read 57 (.aload_n 0) 1 58 := ⟨by decide +kernel, rfl⟩
theorem d_Re_read_58 : dz b_Re_read 58 (.aload_n 0) 1 59 := ⟨by decide +kernel, rfl⟩
theorem d_Re_read_59 : dz b_Re_read 59 (.aload_n 1) 1 60 := ⟨by decide +kernel, rfl⟩
theorem d_Re_read_60 : dz b_Re_read 60 (.invokevirtual 58) 3 63 := ⟨by decide +kernel, rfl⟩
theorem d_Re_read_63 : dz b_Re_read 63 (.putfield 9) 3 66 := ⟨by decide +kernel, rfl⟩
theorem d_Re_read_66 : dz b_Re_read 66 (.aload_n 0) 1 67 := ⟨by decide +kernel, rfl⟩
theorem d_Re_read_67 : dz b_Re_read 67 (.getfield 9) 3 70 := ⟨by decide +kernel, rfl⟩
theorem d_Re_read_70 : dj b_Re_read 70 (.ifCond .eq) 73 86 := ⟨16, by decide +kernel, rfl, by decide⟩
theorem d_Re_read_73 : dz b_Re_read 73 (.aload_n 0) 1 74 := ⟨by decide +kernel, rfl⟩
theorem d_Re_read_74 : dz b_Re_read 74 (.aload_n 0) 1 75 := ⟨by decide +kernel, rfl⟩
theorem d_Re_read_75 : dz b_Re_read 75 (.getfield 41) 3 78 := ⟨by decide +kernel, rfl⟩
theorem d_Re_read_78 : dz b_Re_read 78 (.getfield 62) 3 81 := ⟨by decide +kernel, rfl⟩
theorem d_Re_read_81 : dz b_Re_read 81 (.putfield 15) 3 84 := ⟨by decide +kernel, rfl⟩
theorem d_Re_read_84 : dz b_Re_read 84 (.iconst 0) 1 85 := ⟨by decide +kernel, rfl⟩
theorem d_Re_read_85 : dz b_Re_read 85 (.ireturn) 1 86 := ⟨by decide +kernel, rfl⟩
theorem d_Re_read_86 : dz b_Re_read 86 (.iinc 2 1) 3 89 := ⟨by decide +kernel, rfl⟩
theorem d_Re_read_89 : dj b_Re_read 89 (.goto) 92 24 := ⟨(-65), by decide +kernel, rfl, by decide⟩
theorem d_Re_read_92 : dz b_Re_read 92 (.iconst 0) 1 93 := ⟨by decide +kernel, rfl⟩
theorem d_Re_read_93 : dz b_Re_read 93 (.ireturn) 1 94 := ⟨by decide +kernel, rfl⟩
theorem d_Re_faultOfToken_0 : dz b_Re_faultOfToken 0 (.aload_n 0) 1 1 := ⟨by decide +kernel, rfl⟩
theorem d_Re_faultOfToken_1 : dz b_Re_faultOfToken 1 (.getfield 41) 3 4 := ⟨by decide +kernel, rfl⟩
theorem d_Re_faultOfToken_4 : dz b_Re_faultOfToken 4 (.getfield 55) 3 7 := ⟨by decide +kernel, rfl⟩
theorem d_Re_faultOfToken_7 : dz b_Re_faultOfToken 7 (.iconst 1) 1 8 := ⟨by decide +kernel, rfl⟩
theorem d_Re_faultOfToken_8 : dj b_Re_faultOfToken 8 (.if_icmp .ne) 11 13 := ⟨5, by decide +kernel, rfl, by decide⟩
theorem d_Re_faultOfToken_11 : dz b_Re_faultOfToken 11 (.iconst 1) 1 12 := ⟨by decide +kernel, rfl⟩
theorem d_Re_faultOfToken_12 : dz b_Re_faultOfToken 12 (.ireturn) 1 13 := ⟨by decide +kernel, rfl⟩
theorem d_Re_faultOfToken_13 : dz b_Re_faultOfToken 13 (.aload_n 0) 1 14 := ⟨by decide +kernel, rfl⟩
theorem d_Re_faultOfToken_14 : dz b_Re_faultOfToken 14 (.getfield 41) 3 17 := ⟨by decide +kernel, rfl⟩
theorem d_Re_faultOfToken_17 : dz b_Re_faultOfToken 17 (.getfield 55) 3 20 := ⟨by decide +kernel, rfl⟩
theorem d_Re_faultOfToken_20 : dj b_Re_faultOfToken 20 (.ifCond .ne) 23 25 := ⟨5, by decide +kernel, rfl, by decide⟩
theorem d_Re_faultOfToken_23 : dz b_Re_faultOfToken 23 (.iconst 2) 1 24 := ⟨by decide +kernel, rfl⟩
theorem d_Re_faultOfToken_24 : dz b_Re_faultOfToken 24 (.ireturn) 1 25 := ⟨by decide +kernel, rfl⟩
theorem d_Re_faultOfToken_25 : dz b_Re_faultOfToken 25 (.aload_n 0) 1 26 := ⟨by decide +kernel, rfl⟩
theorem d_Re_faultOfToken_26 : dz b_Re_faultOfToken 26 (.getfield 18) 3 29 := ⟨by decide +kernel, rfl⟩
theorem d_Re_faultOfToken_29 : dz b_Re_faultOfToken 29 (.tableswitch 83 0 6 #[43, 49, 54, 60, 68, 73, 78]) 43 72 := ⟨by decide +kernel, rfl⟩
theorem d_Re_faultOfToken_72 : dz b_Re_faultOfToken 72 (.aload_n 0) 1 73 := ⟨by decide +kernel, rfl⟩
theorem d_Re_faultOfToken_73 : dz b_Re_faultOfToken 73 (.aload_n 1) 1 74 := ⟨by decide +kernel, rfl⟩
theorem d_Re_faultOfToken_74 : dz b_Re_faultOfToken 74 (.invokevirtual 63) 3 77 := ⟨by decide +kernel, rfl⟩
theorem d_Re_faultOfToken_77 : dz b_Re_faultOfToken 77 (.ireturn) 1 78 := ⟨by decide +kernel, rfl⟩
theorem d_Re_faultOfToken_78 : dz b_Re_faultOfToken 78 (.aload_n 0) 1 79 := ⟨by decide +kernel, rfl⟩
theorem d_Re_faultOfToken_79 : dz b_Re_faultOfToken 79 (.invokevirtual 66) 3 82 := ⟨by decide +kernel, rfl⟩
theorem d_Re_faultOfToken_82 : dz b_Re_faultOfToken 82 (.ireturn) 1 83 := ⟨by decide +kernel, rfl⟩
theorem d_Re_faultOfToken_83 : dz b_Re_faultOfToken 83 (.aload_n 0) 1 84 := ⟨by decide +kernel, rfl⟩
theorem d_Re_faultOfToken_84 : dz b_Re_faultOfToken 84 (.aload_n 1) 1 85 := ⟨by decide +kernel, rfl⟩
theorem d_Re_faultOfToken_85 : dz b_Re_faultOfToken 85 (.invokevirtual 70) 3 88 := ⟨by decide +kernel, rfl⟩
theorem d_Re_faultOfToken_88 : dz b_Re_faultOfToken 88 (.ireturn) 1 89 := ⟨by decide +kernel, rfl⟩
theorem d_Re_faultOfToken_89 : dz b_Re_faultOfToken 89 (.aload_n 0) 1 90 := ⟨by decide +kernel, rfl⟩
theorem d_Re_faultOfToken_90 : dz b_Re_faultOfToken 90 (.bipush 58) 2 92 := ⟨by decide +kernel, rfl⟩
theorem d_Re_faultOfToken_92 : dz b_Re_faultOfToken 92 (.iconst 4) 1 93 := ⟨by decide +kernel, rfl⟩
theorem d_Re_faultOfToken_93 : dz b_Re_faultOfToken 93 (.invokevirtual 73) 3 96 := ⟨by decide +kernel, rfl⟩
theorem d_Re_faultOfToken_96 : dz b_Re_faultOfToken 96 (.ireturn) 1 97 := ⟨by decide +kernel, rfl⟩
theorem d_Re_faultOfToken_97 : dz b_Re_faultOfToken 97 (.aload_n 0) 1 98 := ⟨by decide +kernel, rfl⟩
theorem d_Re_faultOfToken_98 : dz b_Re_faultOfToken 98 (.invokevirtual 77) 3 101 := ⟨by decide +kernel, rfl⟩
theorem d_Re_faultOfToken_101 : dz b_Re_faultOfToken 101 (.ireturn) 1 102 := ⟨by decide +kernel, rfl⟩
theorem d_Re_faultOfToken_102 : dz b_Re_faultOfToken 102 (.aload_n 0) 1 103 := ⟨by decide +kernel, rfl⟩
theorem d_Re_faultOfToken_103 : dz b_Re_faultOfToken 103 (.invokevirtual 80) 3 106 := ⟨by decide +kernel, rfl⟩
theorem d_Re_faultOfToken_106 : dz b_Re_faultOfToken 106 (.ireturn) 1 107 := ⟨by decide +kernel, rfl⟩
theorem d_Re_faultOfToken_107 : dz b_Re_faultOfToken 107 (.aload_n 0) 1 108 := ⟨by decide +kernel, rfl⟩
theorem d_Re_faultOfToken_108 : dz b_Re_faultOfToken 108 (.invokevirtual 83) 3 111 := ⟨by decide +kernel, rfl⟩
theorem d_Re_faultOfToken_111 : dz b_Re_faultOfToken 111 (.ireturn) 1 112 := ⟨by decide +kernel, rfl⟩
theorem d_Re_faultOfToken_112 : dz b_Re_faultOfToken 112 (.aload_n 0) 1 113 := ⟨by decide +kernel, rfl⟩
theorem d_Re_faultOfToken_113 : dz b_Re_faultOfToken 113 (.bipush 59) 2 115 := ⟨by decide +kernel, rfl⟩
theorem d_Re_faultOfToken_115 : dz b_Re_faultOfToken 115 (.iconst 0) 1 116 := ⟨by decide +kernel, rfl⟩
theorem d_Re_faultOfToken_116 : dz b_Re_faultOfToken 116 (.invokevirtual 73) 3 119 := ⟨by decide +kernel, rfl⟩
theorem d_Re_faultOfToken_119 : dz b_Re_faultOfToken 119 (.ireturn) 1 120 := ⟨by decide +kernel, rfl⟩
theorem d_Re_takeLine_0 : dz b_Re_takeLine 0 (.aload_n 0) 1 1 := ⟨by decide +kernel, rfl⟩
theorem d_Re_takeLine_1 : dz b_Re_takeLine 1 (.getfield 41) 3 4 := ⟨by decide +kernel, rfl⟩
theorem d_Re_takeLine_4 : dz b_Re_takeLine 4 (.ldc2_w 86) 3 7 := ⟨by decide +kernel, rfl⟩
theorem d_Re_takeLine_7 : dz b_Re_takeLine 7 (.invokevirtual 88) 3 10 := ⟨by decide +kernel, rfl⟩
theorem d_Re_takeLine_10 : dj b_Re_takeLine 10 (.ifCond .eq) 13 25 := ⟨15, by decide +kernel, rfl, by decide⟩
theorem d_Re_takeLine_13 : dz b_Re_takeLine 13 (.aload_n 1) 1 14 := ⟨by decide +kernel, rfl⟩
theorem d_Re_takeLine_14 : dz b_Re_takeLine 14 (.getfield 92) 3 17 := ⟨by decide +kernel, rfl⟩
theorem d_Re_takeLine_17 : dz b_Re_takeLine 17 (.invokevirtual 98) 3 20 := ⟨by decide +kernel, rfl⟩
theorem d_Re_takeLine_20 : dz b_Re_takeLine 20 (.bipush 20) 2 22 := ⟨by decide +kernel, rfl⟩
theorem d_Re_takeLine_22 : dj b_Re_takeLine 22 (.if_icmp .lt) 25 27 := ⟨5, by decide +kernel, rfl, by decide⟩
theorem d_Re_takeLine_25 : dz b_Re_takeLine 25 (.iconst 2) 1 26 := ⟨by decide +kernel, rfl⟩
theorem d_Re_takeLine_26 : dz b_Re_takeLine 26 (.ireturn) 1 27 := ⟨by decide +kernel, rfl⟩
theorem d_Re_takeLine_27 : dz b_Re_takeLine 27 (.aload_n 0) 1 28 := ⟨by decide +kernel, rfl⟩
theorem d_Re_takeLine_28 : dz b_Re_takeLine 28 (.iconst 1) 1 29 := ⟨by decide +kernel, rfl⟩
theorem d_Re_takeLine_29 : dz b_Re_takeLine 29 (.invokevirtual 103) 3 32 := ⟨by decide +kernel, rfl⟩
theorem d_Re_takeLine_32 : dz b_Re_takeLine 32 (.ireturn) 1 33 := ⟨by decide +kernel, rfl⟩
theorem d_Re_takeDayNumber_0 : dz b_Re_takeDayNumber 0 (.aload_n 0) 1 1 := ⟨by decide +kernel, rfl⟩
theorem d_Re_takeDayNumber_1 : dz b_Re_takeDayNumber 1 (.getfield 41) 3 4 := ⟨by decide +kernel, rfl⟩
theorem d_Re_takeDayNumber_4 : dz b_Re_takeDayNumber 4 (.getfield 55) 3 7 := ⟨by decide +kernel, rfl⟩
theorem d_Re_takeDayNumber_7 : dz b_Re_takeDayNumber 7 (.iconst 3) 1 8 := ⟨by decide +kernel, rfl⟩
theorem d_Re_takeDayNumber_8 : dj b_Re_takeDayNumber 8 (.if_icmp .eq) 11 13 := ⟨5, by decide +kernel, rfl, by decide⟩
theorem d_Re_takeDayNumber_11 : dz b_Re_takeDayNumber 11 (.iconst 2) 1 12 := ⟨by decide +kernel, rfl⟩
theorem d_Re_takeDayNumber_12 : dz b_Re_takeDayNumber 12 (.ireturn) 1 13 := ⟨by decide +kernel, rfl⟩
theorem d_Re_takeDayNumber_13 : dz b_Re_takeDayNumber 13 (.aload_n 0) 1 14 := ⟨by decide +kernel, rfl⟩
theorem d_Re_takeDayNumber_14 : dz b_Re_takeDayNumber 14 (.getfield 41) 3 17 := ⟨by decide +kernel, rfl⟩
theorem d_Re_takeDayNumber_17 : dz b_Re_takeDayNumber 17 (.getfield 107) 3 20 := ⟨by decide +kernel, rfl⟩
theorem d_Re_takeDayNumber_20 : dz b_Re_takeDayNumber 20 (.ldc2_w 111) 3 23 := ⟨by decide +kernel, rfl⟩
theorem d_Re_takeDayNumber_23 : dz b_Re_takeDayNumber 23 (.lcmp) 1 24 := ⟨by decide +kernel, rfl⟩
theorem d_Re_takeDayNumber_24 : dj b_Re_takeDayNumber 24 (.ifCond .lt) 27 29 := ⟨5, by decide +kernel, rfl, by decide⟩
theorem d_Re_takeDayNumber_27 : dz b_Re_takeDayNumber 27 (.iconst 3) 1 28 := ⟨by decide +kernel, rfl⟩
theorem d_Re_takeDayNumber_28 : dz b_Re_takeDayNumber 28 (.ireturn) 1 29 := ⟨by decide +kernel, rfl⟩
theorem d_Re_takeDayNumber_29 : dz b_Re_takeDayNumber 29 (.aload_n 0) 1 30 := ⟨by decide +kernel, rfl⟩
theorem d_Re_takeDayNumber_30 : dz b_Re_takeDayNumber 30 (.aload_n 0) 1 31 := ⟨by decide +kernel, rfl⟩
theorem d_Re_takeDayNumber_31 : dz b_Re_takeDayNumber 31 (.getfield 41) 3 34 := ⟨by decide +kernel, rfl⟩
theorem d_Re_takeDayNumber_34 : dz b_Re_takeDayNumber 34 (.getfield 107) 3 37 := ⟨by decide +kernel, rfl⟩
theorem d_Re_takeDayNumber_37 : dz b_Re_takeDayNumber 37 (.l2i) 1 38 := ⟨by decide +kernel, rfl⟩
theorem d_Re_takeDayNumber_38 : dz b_Re_takeDayNumber 38 (.putfield 21) 3 41 := ⟨by decide +kernel, rfl⟩
theorem d_Re_takeDayNumber_41 : dz b_Re_takeDayNumber 41 (.aload_n 0) 1 42 := ⟨by decide +kernel, rfl⟩
theorem d_Re_takeDayNumber_42 : dz b_Re_takeDayNumber 42 (.iconst 2) 1 43 := ⟨by decide +kernel, rfl⟩
theorem d_Re_takeDayNumber_43 : dz b_Re_takeDayNumber 43 (.invokevirtual 103) 3 46 := ⟨by decide +kernel, rfl⟩
theorem d_Re_takeDayNumber_46 : dz b_Re_takeDayNumber 46 (.ireturn) 1 47 := ⟨by decide +kernel, rfl⟩
theorem d_Re_takeGang_0 : dz b_Re_takeGang 0 (.aload_n 0) 1 1 := ⟨by decide +kernel, rfl⟩
theorem d_Re_takeGang_1 : dz b_Re_takeGang 1 (.getfield 41) 3 4 := ⟨by decide +kernel, rfl⟩
theorem d_Re_takeGang_4 : dz b_Re_takeGang 4 (.getfield 55) 3 7 := ⟨by decide +kernel, rfl⟩
theorem d_Re_takeGang_7 : dz b_Re_takeGang 7 (.iconst 2) 1 8 := ⟨by decide +kernel, rfl⟩
theorem d_Re_takeGang_8 : dj b_Re_takeGang 8 (.if_icmp .ne) 11 24 := ⟨16, by decide +kernel, rfl, by decide⟩
theorem d_Re_takeGang_11 : dz b_Re_takeGang 11 (.aload_n 0) 1 12 := ⟨by decide +kernel, rfl⟩
theorem d_Re_takeGang_12 : dz b_Re_takeGang 12 (.getfield 41) 3 15 := ⟨by decide +kernel, rfl⟩
theorem d_Re_takeGang_15 : dz b_Re_takeGang 15 (.getfield 107) 3 18 := ⟨by decide +kernel, rfl⟩
theorem d_Re_takeGang_18 : dz b_Re_takeGang 18 (.invokestatic 113) 3 21 := ⟨by decide +kernel, rfl⟩
theorem d_Re_takeGang_21 : dj b_Re_takeGang 21 (.goto) 24 25 := ⟨4, by decide +kernel, rfl, by decide⟩
theorem d_Re_takeGang_24 : dz b_Re_takeGang 24 (.iconst (-1)) 1 25 := ⟨by decide +kernel, rfl⟩
theorem d_Re_takeGang_25 : dz b_Re_takeGang 25 (.istore_n 2) 1 26 := ⟨by decide +kernel, rfl⟩
theorem d_Re_takeGang_26 : dz b_Re_takeGang 26 (.iload_n 2) 1 27 := ⟨by decide +kernel, rfl⟩
theorem d_Re_takeGang_27 : dz b_Re_takeGang 27 (.iconst (-1)) 1 28 := ⟨by decide +kernel, rfl⟩
theorem d_Re_takeGang_28 : dj b_Re_takeGang 28 (.if_icmp .ne) 31 33 := ⟨5, by decide +kernel, rfl, by decide⟩
theorem d_Re_takeGang_31 : dz b_Re_takeGang 31 (.iconst 2) 1 32 := ⟨by decide +kernel, rfl⟩
theorem d_Re_takeGang_32 : dz b_Re_takeGang 32 (.ireturn) 1 33 := ⟨by decide +kernel, rfl⟩
theorem d_Re_takeGang_33 : dz b_Re_takeGang 33 (.aload_n 0) 1 34 := ⟨by decide +kernel, rfl⟩
theorem d_Re_takeGang_34 : dz b_Re_takeGang 34 (.new 24) 3 37 := ⟨by decide +kernel, rfl⟩
theorem d_Re_takeGang_37 : dz b_Re_takeGang 37 (.dup) 1 38 := ⟨by decide +kernel, rfl⟩
theorem d_Re_takeGang_38 : dz b_Re_takeGang 38 (.aload_n 0) 1 39 := ⟨by decide +kernel, rfl⟩
theorem d_Re_takeGang_39 : dz b_Re_takeGang 39 (.getfield 21) 3 42 := ⟨by decide +kernel, rfl⟩
theorem d_Re_takeGang_42 : dz b_Re_takeGang 42 (.iload_n 2) 1 43 := ⟨by decide +kernel, rfl⟩
theorem d_Re_takeGang_43 : dz b_Re_takeGang 43 (.invokespecial 26) 3 46 := ⟨by decide +kernel, rfl⟩
theorem d_Re_takeGang_46 : dz b_Re_takeGang 46 (.putfield 29) 3 49 := ⟨by decide +kernel, rfl⟩
theorem d_Re_takeGang_49 : dz b_Re_takeGang 49 (.aload_n 1) 1 50 := ⟨by decide +kernel, rfl⟩
theorem d_Re_takeGang_50 : dz b_Re_takeGang 50 (.getfield 92) 3 53 := ⟨by decide +kernel, rfl⟩
theorem d_Re_takeGang_53 : dz b_Re_takeGang 53 (.aload_n 0) 1 54 := ⟨by decide +kernel, rfl⟩
end
section
theorem d_Re_takeGang_54 : dz b_Re_takeGang 54 (.getfield 29) 3 57 := ⟨by decide +kernel, rfl⟩
theorem d_Re_takeGang_57 : dz b_Re_takeGang 57 (.invokevirtual 117) 3 60 := ⟨by decide +kernel, rfl⟩
theorem d_Re_takeGang_60 : dz b_Re_takeGang 60 (.pop) 1 61 := ⟨by decide +kernel, rfl⟩
theorem d_Re_takeGang_61 : dz b_Re_takeGang 61 (.aload_n 0) 1 62 := ⟨by decide +kernel, rfl⟩
theorem d_Re_takeGang_62 : dz b_Re_takeGang 62 (.iconst 3) 1 63 := ⟨by decide +kernel, rfl⟩
theorem d_Re_takeGang_63 : dz b_Re_takeGang 63 (.invokevirtual 103) 3 66 := ⟨by decide +kernel, rfl⟩
theorem d_Re_takeGang_66 : dz b_Re_takeGang 66 (.ireturn) 1 67 := ⟨by decide +kernel, rfl⟩
theorem d_Re_takeSign_0 : dz b_Re_takeSign 0 (.aload_n 0) 1 1 := ⟨by decide +kernel, rfl⟩
theorem d_Re_takeSign_1 : dz b_Re_takeSign 1 (.getfield 41) 3 4 := ⟨by decide +kernel, rfl⟩
theorem d_Re_takeSign_4 : dz b_Re_takeSign 4 (.iload_n 1) 1 5 := ⟨by decide +kernel, rfl⟩
theorem d_Re_takeSign_5 : dz b_Re_takeSign 5 (.invokevirtual 121) 3 8 := ⟨by decide +kernel, rfl⟩
theorem d_Re_takeSign_8 : dj b_Re_takeSign 8 (.ifCond .eq) 11 19 := ⟨11, by decide +kernel, rfl, by decide⟩
theorem d_Re_takeSign_11 : dz b_Re_takeSign 11 (.aload_n 0) 1 12 := ⟨by decide +kernel, rfl⟩
theorem d_Re_takeSign_12 : dz b_Re_takeSign 12 (.iload_n 2) 1 13 := ⟨by decide +kernel, rfl⟩
theorem d_Re_takeSign_13 : dz b_Re_takeSign 13 (.invokevirtual 103) 3 16 := ⟨by decide +kernel, rfl⟩
theorem d_Re_takeSign_16 : dj b_Re_takeSign 16 (.goto) 19 20 := ⟨4, by decide +kernel, rfl, by decide⟩
theorem d_Re_takeSign_19 : dz b_Re_takeSign 19 (.iconst 2) 1 20 := ⟨by decide +kernel, rfl⟩
theorem d_Re_takeSign_20 : dz b_Re_takeSign 20 (.ireturn) 1 21 := ⟨by decide +kernel, rfl⟩
theorem d_Re_takeEntry_0 : dz b_Re_takeEntry 0 (.aload_n 0) 1 1 := ⟨by decide +kernel, rfl⟩
theorem d_Re_takeEntry_1 : dz b_Re_takeEntry 1 (.getfield 41) 3 4 := ⟨by decide +kernel, rfl⟩
theorem d_Re_takeEntry_4 : dz b_Re_takeEntry 4 (.bipush 63) 2 6 := ⟨by decide +kernel, rfl⟩
theorem d_Re_takeEntry_6 : dz b_Re_takeEntry 6 (.invokevirtual 121) 3 9 := ⟨by decide +kernel, rfl⟩
theorem d_Re_takeEntry_9 : dj b_Re_takeEntry 9 (.ifCond .eq) 12 26 := ⟨17, by decide +kernel, rfl, by decide⟩
theorem d_Re_takeEntry_12 : dz b_Re_takeEntry 12 (.aload_n 0) 1 13 := ⟨by decide +kernel, rfl⟩
theorem d_Re_takeEntry_13 : dz b_Re_takeEntry 13 (.getfield 29) 3 16 := ⟨by decide +kernel, rfl⟩
theorem d_Re_takeEntry_16 : dz b_Re_takeEntry 16 (.iconst 1) 1 17 := ⟨by decide +kernel, rfl⟩
theorem d_Re_takeEntry_17 : dz b_Re_takeEntry 17 (.putfield 125) 3 20 := ⟨by decide +kernel, rfl⟩
theorem d_Re_takeEntry_20 : dz b_Re_takeEntry 20 (.aload_n 0) 1 21 := ⟨by decide +kernel, rfl⟩
theorem d_Re_takeEntry_21 : dz b_Re_takeEntry 21 (.iconst 4) 1 22 := ⟨by decide +kernel, rfl⟩
theorem d_Re_takeEntry_22 : dz b_Re_takeEntry 22 (.invokevirtual 103) 3 25 := ⟨by decide +kernel, rfl⟩
theorem d_Re_takeEntry_25 : dz b_Re_takeEntry 25 (.ireturn) 1 26 := ⟨by decide +kernel, rfl⟩
theorem d_Re_takeEntry_26 : dz b_Re_takeEntry 26 (.aload_n 0) 1 27 := ⟨by decide +kernel, rfl⟩
theorem d_Re_takeEntry_27 : dz b_Re_takeEntry 27 (.getfield 41) 3 30 := ⟨by decide +kernel, rfl⟩
theorem d_Re_takeEntry_30 : dz b_Re_takeEntry 30 (.ldc2_w 129) 3 33 := ⟨by decide +kernel, rfl⟩
theorem d_Re_takeEntry_33 : dz b_Re_takeEntry 33 (.invokevirtual 88) 3 36 := ⟨by decide +kernel, rfl⟩
theorem d_Re_takeEntry_36 : dj b_Re_takeEntry 36 (.ifCond .eq) 39 46 := ⟨10, by decide +kernel, rfl, by decide⟩
theorem d_Re_takeEntry_39 : dz b_Re_takeEntry 39 (.aload_n 0) 1 40 := ⟨by decide +kernel, rfl⟩
theorem d_Re_takeEntry_40 : dz b_Re_takeEntry 40 (.bipush 6) 2 42 := ⟨by decide +kernel, rfl⟩
theorem d_Re_takeEntry_42 : dz b_Re_takeEntry 42 (.invokevirtual 103) 3 45 := ⟨by decide +kernel, rfl⟩
theorem d_Re_takeEntry_45 : dz b_Re_takeEntry 45 (.ireturn) 1 46 := ⟨by decide +kernel, rfl⟩
theorem d_Re_takeEntry_46 : dz b_Re_takeEntry 46 (.aload_n 0) 1 47 := ⟨by decide +kernel, rfl⟩
theorem d_Re_takeEntry_47 : dz b_Re_takeEntry 47 (.getfield 41) 3 50 := ⟨by decide +kernel, rfl⟩
theorem d_Re_takeEntry_50 : dz b_Re_takeEntry 50 (.getfield 55) 3 53 := ⟨by decide +kernel, rfl⟩
theorem d_Re_takeEntry_53 : dz b_Re_takeEntry 53 (.iconst 2) 1 54 := ⟨by decide +kernel, rfl⟩
theorem d_Re_takeEntry_54 : dj b_Re_takeEntry 54 (.if_icmp .ne) 57 75 := ⟨21, by decide +kernel, rfl, by decide⟩
theorem d_Re_takeEntry_57 : dz b_Re_takeEntry 57 (.aload_n 0) 1 58 := ⟨by decide +kernel, rfl⟩
theorem d_Re_takeEntry_58 : dz b_Re_takeEntry 58 (.getfield 41) 3 61 := ⟨by decide +kernel, rfl⟩
theorem d_Re_takeEntry_61 : dz b_Re_takeEntry 61 (.getfield 107) 3 64 := ⟨by decide +kernel, rfl⟩
theorem d_Re_takeEntry_64 : dz b_Re_takeEntry 64 (.invokestatic 131) 3 67 := ⟨by decide +kernel, rfl⟩
theorem d_Re_takeEntry_67 : dj b_Re_takeEntry 67 (.ifCond .eq) 70 75 := ⟨8, by decide +kernel, rfl, by decide⟩
theorem d_Re_takeEntry_70 : dz b_Re_takeEntry 70 (.aload_n 0) 1 71 := ⟨by decide +kernel, rfl⟩
theorem d_Re_takeEntry_71 : dz b_Re_takeEntry 71 (.invokevirtual 134) 3 74 := ⟨by decide +kernel, rfl⟩
theorem d_Re_takeEntry_74 : dz b_Re_takeEntry 74 (.ireturn) 1 75 := ⟨by decide +kernel, rfl⟩
theorem d_Re_takeEntry_75 : dz b_Re_takeEntry 75 (.aload_n 0) 1 76 := ⟨by decide +kernel, rfl⟩
theorem d_Re_takeEntry_76 : dz b_Re_takeEntry 76 (.bipush 59) 2 78 := ⟨by decide +kernel, rfl⟩
theorem d_Re_takeEntry_78 : dz b_Re_takeEntry 78 (.iconst 0) 1 79 := ⟨by decide +kernel, rfl⟩
theorem d_Re_takeEntry_79 : dz b_Re_takeEntry 79 (.invokevirtual 73) 3 82 := ⟨by decide +kernel, rfl⟩
theorem d_Re_takeEntry_82 : dz b_Re_takeEntry 82 (.ireturn) 1 83 := ⟨by decide +kernel, rfl⟩
theorem d_Re_takeName_0 : dz b_Re_takeName 0 (.aload_n 0) 1 1 := ⟨by decide +kernel, rfl⟩
theorem d_Re_takeName_1 : dz b_Re_takeName 1 (.aload_n 0) 1 2 := ⟨by decide +kernel, rfl⟩
theorem d_Re_takeName_2 : dz b_Re_takeName 2 (.getfield 45) 3 5 := ⟨by decide +kernel, rfl⟩
theorem d_Re_takeName_5 : dz b_Re_takeName 5 (.aload_n 0) 1 6 := ⟨by decide +kernel, rfl⟩
theorem d_Re_takeName_6 : dz b_Re_takeName 6 (.getfield 41) 3 9 := ⟨by decide +kernel, rfl⟩
theorem d_Re_takeName_9 : dz b_Re_takeName 9 (.getfield 107) 3 12 := ⟨by decide +kernel, rfl⟩
theorem d_Re_takeName_12 : dz b_Re_takeName 12 (.aload_n 0) 1 13 := ⟨by decide +kernel, rfl⟩
theorem d_Re_takeName_13 : dz b_Re_takeName 13 (.getfield 29) 3 16 := ⟨by decide +kernel, rfl⟩
theorem d_Re_takeName_16 : dz b_Re_takeName 16 (.getfield 137) 3 19 := ⟨by decide +kernel, rfl⟩
theorem d_Re_takeName_19 : dz b_Re_takeName 19 (.invokevirtual 140) 3 22 := ⟨by decide +kernel, rfl⟩
theorem d_Re_takeName_22 : dz b_Re_takeName 22 (.putfield 33) 3 25 := ⟨by decide +kernel, rfl⟩
theorem d_Re_takeName_25 : dz b_Re_takeName 25 (.aload_n 0) 1 26 := ⟨by decide +kernel, rfl⟩
theorem d_Re_takeName_26 : dz b_Re_takeName 26 (.getfield 33) 3 29 := ⟨by decide +kernel, rfl⟩
theorem d_Re_takeName_29 : dz b_Re_takeName 29 (.iconst (-1)) 1 30 := ⟨by decide +kernel, rfl⟩
theorem d_Re_takeName_30 : dj b_Re_takeName 30 (.if_icmp .ne) 33 35 := ⟨5, by decide +kernel, rfl, by decide⟩
theorem d_Re_takeName_33 : dz b_Re_takeName 33 (.iconst 4) 1 34 := ⟨by decide +kernel, rfl⟩
theorem d_Re_takeName_34 : dz b_Re_takeName 34 (.ireturn) 1 35 := ⟨by decide +kernel, rfl⟩
theorem d_Re_takeName_35 : dz b_Re_takeName 35 (.aload_n 0) 1 36 := ⟨by decide +kernel, rfl⟩
theorem d_Re_takeName_36 : dz b_Re_takeName 36 (.getfield 29) 3 39 := ⟨by decide +kernel, rfl⟩
theorem d_Re_takeName_39 : dz b_Re_takeName 39 (.aload_n 0) 1 40 := ⟨by decide +kernel, rfl⟩
theorem d_Re_takeName_40 : dz b_Re_takeName 40 (.getfield 33) 3 43 := ⟨by decide +kernel, rfl⟩
theorem d_Re_takeName_43 : dz b_Re_takeName 43 (.invokevirtual 146) 3 46 := ⟨by decide +kernel, rfl⟩
theorem d_Re_takeName_46 : dj b_Re_takeName 46 (.ifCond .eq) 49 53 := ⟨7, by decide +kernel, rfl, by decide⟩
theorem d_Re_takeName_49 : dz b_Re_takeName 49 (.iconst 5) 1 50 := ⟨by decide +kernel, rfl⟩
theorem d_Re_takeName_50 : dj b_Re_takeName 50 (.goto) 53 58 := ⟨8, by decide +kernel, rfl, by decide⟩
theorem d_Re_takeName_53 : dz b_Re_takeName 53 (.aload_n 0) 1 54 := ⟨by decide +kernel, rfl⟩
theorem d_Re_takeName_54 : dz b_Re_takeName 54 (.iconst 5) 1 55 := ⟨by decide +kernel, rfl⟩
theorem d_Re_takeName_55 : dz b_Re_takeName 55 (.invokevirtual 103) 3 58 := ⟨by decide +kernel, rfl⟩
theorem d_Re_takeName_58 : dz b_Re_takeName 58 (.ireturn) 1 59 := ⟨by decide +kernel, rfl⟩
theorem d_Re_takeToldOfName_0 : dz b_Re_takeToldOfName 0 (.aload_n 0) 1 1 := ⟨by decide +kernel, rfl⟩
theorem d_Re_takeToldOfName_1 : dz b_Re_takeToldOfName 1 (.getfield 41) 3 4 := ⟨by decide +kernel, rfl⟩
theorem d_Re_takeToldOfName_4 : dz b_Re_takeToldOfName 4 (.bipush 63) 2 6 := ⟨by decide +kernel, rfl⟩
theorem d_Re_takeToldOfName_6 : dz b_Re_takeToldOfName 6 (.invokevirtual 121) 3 9 := ⟨by decide +kernel, rfl⟩
theorem d_Re_takeToldOfName_9 : dj b_Re_takeToldOfName 9 (.ifCond .eq) 12 31 := ⟨22, by decide +kernel, rfl, by decide⟩
theorem d_Re_takeToldOfName_12 : dz b_Re_takeToldOfName 12 (.aload_n 0) 1 13 := ⟨by decide +kernel, rfl⟩
theorem d_Re_takeToldOfName_13 : dz b_Re_takeToldOfName 13 (.getfield 29) 3 16 := ⟨by decide +kernel, rfl⟩
theorem d_Re_takeToldOfName_16 : dz b_Re_takeToldOfName 16 (.getfield 150) 3 19 := ⟨by decide +kernel, rfl⟩
theorem d_Re_takeToldOfName_19 : dz b_Re_takeToldOfName 19 (.aload_n 0) 1 20 := ⟨by decide +kernel, rfl⟩
theorem d_Re_takeToldOfName_20 : dz b_Re_takeToldOfName 20 (.getfield 33) 3 23 := ⟨by decide +kernel, rfl⟩
theorem d_Re_takeToldOfName_23 : dz b_Re_takeToldOfName 23 (.iconst (-1)) 1 24 := ⟨by decide +kernel, rfl⟩
theorem d_Re_takeToldOfName_24 : dz b_Re_takeToldOfName 24 (.iastore) 1 25 := ⟨by decide +kernel, rfl⟩
theorem d_Re_takeToldOfName_25 : dz b_Re_takeToldOfName 25 (.aload_n 0) 1 26 := ⟨by decide +kernel, rfl⟩
theorem d_Re_takeToldOfName_26 : dz b_Re_takeToldOfName 26 (.iconst 4) 1 27 := ⟨by decide +kernel, rfl⟩
theorem d_Re_takeToldOfName_27 : dz b_Re_takeToldOfName 27 (.invokevirtual 103) 3 30 := ⟨by decide +kernel, rfl⟩
theorem d_Re_takeToldOfName_30 : dz b_Re_takeToldOfName 30 (.ireturn) 1 31 := ⟨by decide +kernel, rfl⟩
theorem d_Re_takeToldOfName_31 : dz b_Re_takeToldOfName 31 (.aload_n 0) 1 32 := ⟨by decide +kernel, rfl⟩
theorem d_Re_takeToldOfName_32 : dz b_Re_takeToldOfName 32 (.getfield 41) 3 35 := ⟨by decide +kernel, rfl⟩
theorem d_Re_takeToldOfName_35 : dz b_Re_takeToldOfName 35 (.getfield 55) 3 38 := ⟨by decide +kernel, rfl⟩
theorem d_Re_takeToldOfName_38 : dz b_Re_takeToldOfName 38 (.iconst 2) 1 39 := ⟨by decide +kernel, rfl⟩
theorem d_Re_takeToldOfName_39 : dj b_Re_takeToldOfName 39 (.if_icmp .ne) 42 55 := ⟨16, by decide +kernel, rfl, by decide⟩
theorem d_Re_takeToldOfName_42 : dz b_Re_takeToldOfName 42 (.aload_n 0) 1 43 := ⟨by decide +kernel, rfl⟩
theorem d_Re_takeToldOfName_43 : dz b_Re_takeToldOfName 43 (.getfield 41) 3 46 := ⟨by decide +kernel, rfl⟩
theorem d_Re_takeToldOfName_46 : dz b_Re_takeToldOfName 46 (.getfield 107) 3 49 := ⟨by decide +kernel, rfl⟩
theorem d_Re_takeToldOfName_49 : dz b_Re_takeToldOfName 49 (.invokestatic 154) 3 52 := ⟨by decide +kernel, rfl⟩
theorem d_Re_takeToldOfName_52 : dj b_Re_takeToldOfName 52 (.goto) 55 56 := ⟨4, by decide +kernel, rfl, by decide⟩
theorem d_Re_takeToldOfName_55 : dz b_Re_takeToldOfName 55 (.iconst (-1)) 1 56 := ⟨by decide +kernel, rfl⟩
theorem d_Re_takeToldOfName_56 : dz b_Re_takeToldOfName 56 (.istore_n 1) 1 57 := ⟨by decide +kernel, rfl⟩
theorem d_Re_takeToldOfName_57 : dz b_Re_takeToldOfName 57 (.iload_n 1) 1 58 := ⟨by decide +kernel, rfl⟩
theorem d_Re_takeToldOfName_58 : dz b_Re_takeToldOfName 58 (.iconst (-1)) 1 59 := ⟨by decide +kernel, rfl⟩
theorem d_Re_takeToldOfName_59 : dj b_Re_takeToldOfName 59 (.if_icmp .ne) 62 64 := ⟨5, by decide +kernel, rfl, by decide⟩
theorem d_Re_takeToldOfName_62 : dz b_Re_takeToldOfName 62 (.iconst 2) 1 63 := ⟨by decide +kernel, rfl⟩
theorem d_Re_takeToldOfName_63 : dz b_Re_takeToldOfName 63 (.ireturn) 1 64 := ⟨by decide +kernel, rfl⟩
theorem d_Re_takeToldOfName_64 : dz b_Re_takeToldOfName 64 (.aload_n 0) 1 65 := ⟨by decide +kernel, rfl⟩
theorem d_Re_takeToldOfName_65 : dz b_Re_takeToldOfName 65 (.getfield 29) 3 68 := ⟨by decide +kernel, rfl⟩
theorem d_Re_takeToldOfName_68 : dz b_Re_takeToldOfName 68 (.getfield 150) 3 71 := ⟨by decide +kernel, rfl⟩
theorem d_Re_takeToldOfName_71 : dz b_Re_takeToldOfName 71 (.aload_n 0) 1 72 := ⟨by decide +kernel, rfl⟩
theorem d_Re_takeToldOfName_72 : dz b_Re_takeToldOfName 72 (.getfield 33) 3 75 := ⟨by decide +kernel, rfl⟩
theorem d_Re_takeToldOfName_75 : dz b_Re_takeToldOfName 75 (.iload_n 1) 1 76 := ⟨by decide +kernel, rfl⟩
theorem d_Re_takeToldOfName_76 : dz b_Re_takeToldOfName 76 (.iastore) 1 77 := ⟨by decide +kernel, rfl⟩
theorem d_Re_takeToldOfName_77 : dz b_Re_takeToldOfName 77 (.aload_n 0) 1 78 := ⟨by decide +kernel, rfl⟩
theorem d_Re_takeToldOfName_78 : dz b_Re_takeToldOfName 78 (.iconst 4) 1 79 := ⟨by decide +kernel, rfl⟩
theorem d_Re_takeToldOfName_79 : dz b_Re_takeToldOfName 79 (.invokevirtual 103) 3 82 := ⟨by decide +kernel, rfl⟩
theorem d_Re_takeToldOfName_82 : dz b_Re_takeToldOfName 82 (.ireturn) 1 83 := ⟨by decide +kernel, rfl⟩
theorem d_Re_takeWicksNumber_0 : dz b_Re_takeWicksNumber 0 (.aload_n 0) 1 1 := ⟨by decide +kernel, rfl⟩
theorem d_Re_takeWicksNumber_1 : dz b_Re_takeWicksNumber 1 (.getfield 41) 3 4 := ⟨by decide +kernel, rfl⟩
theorem d_Re_takeWicksNumber_4 : dz b_Re_takeWicksNumber 4 (.bipush 63) 2 6 := ⟨by decide +kernel, rfl⟩
theorem d_Re_takeWicksNumber_6 : dz b_Re_takeWicksNumber 6 (.invokevirtual 121) 3 9 := ⟨by decide +kernel, rfl⟩
theorem d_Re_takeWicksNumber_9 : dj b_Re_takeWicksNumber 9 (.ifCond .eq) 12 19 := ⟨10, by decide +kernel, rfl, by decide⟩
theorem d_Re_takeWicksNumber_12 : dz b_Re_takeWicksNumber 12 (.aload_n 0) 1 13 := ⟨by decide +kernel, rfl⟩
theorem d_Re_takeWicksNumber_13 : dz b_Re_takeWicksNumber 13 (.bipush 7) 2 15 := ⟨by decide +kernel, rfl⟩
theorem d_Re_takeWicksNumber_15 : dz b_Re_takeWicksNumber 15 (.invokevirtual 103) 3 18 := ⟨by decide +kernel, rfl⟩
theorem d_Re_takeWicksNumber_18 : dz b_Re_takeWicksNumber 18 (.ireturn) 1 19 := ⟨by decide +kernel, rfl⟩
theorem d_Re_takeWicksNumber_19 : dz b_Re_takeWicksNumber 19 (.aload_n 0) 1 20 := ⟨by decide +kernel, rfl⟩
theorem d_Re_takeWicksNumber_20 : dz b_Re_takeWicksNumber 20 (.getfield 41) 3 23 := ⟨by decide +kernel, rfl⟩
theorem d_Re_takeWicksNumber_23 : dz b_Re_takeWicksNumber 23 (.getfield 55) 3 26 := ⟨by decide +kernel, rfl⟩
theorem d_Re_takeWicksNumber_26 : dz b_Re_takeWicksNumber 26 (.iconst 3) 1 27 := ⟨by decide +kernel, rfl⟩
theorem d_Re_takeWicksNumber_27 : dj b_Re_takeWicksNumber 27 (.if_icmp .eq) 30 32 := ⟨5, by decide +kernel, rfl, by decide⟩
theorem d_Re_takeWicksNumber_30 : dz b_Re_takeWicksNumber 30 (.iconst 2) 1 31 := ⟨by decide +kernel, rfl⟩
theorem d_Re_takeWicksNumber_31 : dz b_Re_takeWicksNumber 31 (.ireturn) 1 32 := ⟨by decide +kernel, rfl⟩
theorem d_Re_takeWicksNumber_32 : dz b_Re_takeWicksNumber 32 (.aload_n 0) 1 33 := ⟨by decide +kernel, rfl⟩
theorem d_Re_takeWicksNumber_33 : dz b_Re_takeWicksNumber 33 (.getfield 41) 3 36 := ⟨by decide +kernel, rfl⟩
theorem d_Re_takeWicksNumber_36 : dz b_Re_takeWicksNumber 36 (.getfield 107) 3 39 := ⟨by decide +kernel, rfl⟩
theorem d_Re_takeWicksNumber_39 : dz b_Re_takeWicksNumber 39 (.lconst 1) 1 40 := ⟨by decide +kernel, rfl⟩
theorem d_Re_takeWicksNumber_40 : dz b_Re_takeWicksNumber 40 (.land) 1 41 := ⟨by decide +kernel, rfl⟩
theorem d_Re_takeWicksNumber_41 : dz b_Re_takeWicksNumber 41 (.lconst 1) 1 42 := ⟨by decide +kernel, rfl⟩
theorem d_Re_takeWicksNumber_42 : dz b_Re_takeWicksNumber 42 (.lcmp) 1 43 := ⟨by decide +kernel, rfl⟩
theorem d_Re_takeWicksNumber_43 : dj b_Re_takeWicksNumber 43 (.ifCond .ne) 46 49 := ⟨6, by decide +kernel, rfl, by decide⟩
theorem d_Re_takeWicksNumber_46 : dz b_Re_takeWicksNumber 46 (.bipush 6) 2 48 := ⟨by decide +kernel, rfl⟩
theorem d_Re_takeWicksNumber_48 : dz b_Re_takeWicksNumber 48 (.ireturn) 1 49 := ⟨by decide +kernel, rfl⟩
theorem d_Re_takeWicksNumber_49 : dz b_Re_takeWicksNumber 49 (.aload_n 0) 1 50 := ⟨by decide +kernel, rfl⟩
theorem d_Re_takeWicksNumber_50 : dz b_Re_takeWicksNumber 50 (.getfield 29) 3 53 := ⟨by decide +kernel, rfl⟩
theorem d_Re_takeWicksNumber_53 : dz b_Re_takeWicksNumber 53 (.aload_n 0) 1 54 := ⟨by decide +kernel, rfl⟩
theorem d_Re_takeWicksNumber_54 : dz b_Re_takeWicksNumber 54 (.getfield 41) 3 57 := ⟨by decide +kernel, rfl⟩
theorem d_Re_takeWicksNumber_57 : dz b_Re_takeWicksNumber 57 (.getfield 107) 3 60 := ⟨by decide +kernel, rfl⟩
theorem d_Re_takeWicksNumber_60 : dz b_Re_takeWicksNumber 60 (.l2i) 1 61 := ⟨by decide +kernel, rfl⟩
theorem d_Re_takeWicksNumber_61 : dz b_Re_takeWicksNumber 61 (.putfield 157) 3 64 := ⟨by decide +kernel, rfl⟩
theorem d_Re_takeWicksNumber_64 : dz b_Re_takeWicksNumber 64 (.aload_n 0) 1 65 := ⟨by decide +kernel, rfl⟩
theorem d_Re_takeWicksNumber_65 : dz b_Re_takeWicksNumber 65 (.bipush 7) 2 67 := ⟨by decide +kernel, rfl⟩
theorem d_Re_takeWicksNumber_67 : dz b_Re_takeWicksNumber 67 (.invokevirtual 103) 3 70 := ⟨by decide +kernel, rfl⟩
theorem d_Re_takeWicksNumber_70 : dz b_Re_takeWicksNumber 70 (.ireturn) 1 71 := ⟨by decide +kernel, rfl⟩
theorem d_Re_expect_0 : dz b_Re_expect 0 (.aload_n 0) 1 1 := ⟨by decide +kernel, rfl⟩
theorem d_Re_expect_1 : dz b_Re_expect 1 (.iload_n 1) 1 2 := ⟨by decide +kernel, rfl⟩
theorem d_Re_expect_2 : dz b_Re_expect 2 (.putfield 18) 3 5 := ⟨by decide +kernel, rfl⟩
theorem d_Re_expect_5 : dz b_Re_expect 5 (.iconst 0) 1 6 := ⟨by decide +kernel, rfl⟩
theorem d_Re_expect_6 : dz b_Re_expect 6 (.ireturn) 1 7 := ⟨by decide +kernel, rfl⟩
theorem d_Fs_init_0 : dz b_Fs_init 0 (.aload_n 0) 1 1 := ⟨by decide +kernel, rfl⟩
theorem d_Fs_init_1 : dz b_Fs_init 1 (.invokespecial 3) 3 4 := ⟨by decide +kernel, rfl⟩
theorem d_Fs_init_4 : dz b_Fs_init 4 (.aload_n 0) 1 5 := ⟨by decide +kernel, rfl⟩
theorem d_Fs_init_5 : dz b_Fs_init 5 (.new 9) 3 8 := ⟨by decide +kernel, rfl⟩
theorem d_Fs_init_8 : dz b_Fs_init 8 (.dup) 1 9 := ⟨by decide +kernel, rfl⟩
theorem d_Fs_init_9 : dz b_Fs_init 9 (.invokespecial 11) 3 12 := ⟨by decide +kernel, rfl⟩
theorem d_Fs_init_12 : dz b_Fs_init 12 (.putfield 12) 3 15 := ⟨by decide +kernel, rfl⟩
theorem d_Fs_init_15 : dz b_Fs_init 15 (.return_) 1 16 := ⟨by decide +kernel, rfl⟩
theorem d_Fs_count_0 : dz b_Fs_count 0 (.aload_n 0) 1 1 := ⟨by decide +kernel, rfl⟩
theorem d_Fs_count_1 : dz b_Fs_count 1 (.getfield 12) 3 4 := ⟨by decide +kernel, rfl⟩
theorem d_Fs_count_4 : dz b_Fs_count 4 (.invokevirtual 18) 3 7 := ⟨by decide +kernel, rfl⟩
theorem d_Fs_count_7 : dz b_Fs_count 7 (.ireturn) 1 8 := ⟨by decide +kernel, rfl⟩
theorem d_Fs_isFull_0 : dz b_Fs_isFull 0 (.aload_n 0) 1 1 := ⟨by decide +kernel, rfl⟩
theorem d_Fs_isFull_1 : dz b_Fs_isFull 1 (.getfield 12) 3 4 := ⟨by decide +kernel, rfl⟩
theorem d_Fs_isFull_4 : dz b_Fs_isFull 4 (.invokevirtual 18) 3 7 := ⟨by decide +kernel, rfl⟩
theorem d_Fs_isFull_7 : dz b_Fs_isFull 7 (.bipush 40) 2 9 := ⟨by decide +kernel, rfl⟩
theorem d_Fs_isFull_9 : dj b_Fs_isFull 9 (.if_icmp .lt) 12 16 := ⟨7, by decide +kernel, rfl, by decide⟩
theorem d_Fs_isFull_12 : dz b_Fs_isFull 12 (.iconst 1) 1 13 := ⟨by decide +kernel, rfl⟩
theorem d_Fs_isFull_13 : dj b_Fs_isFull 13 (.goto) 16 17 := ⟨4, by decide +kernel, rfl, by decide⟩
theorem d_Fs_isFull_16 : dz b_Fs_isFull 16 (.iconst 0) 1 17 := ⟨by decide +kernel, rfl⟩
theorem d_Fs_isFull_17 : dz b_Fs_isFull 17 (.ireturn) 1 18 := ⟨by decide +kernel, rfl⟩
theorem d_Fs_keep_0 : dz b_Fs_keep 0 (.aload_n 0) 1 1 := ⟨by decide +kernel, rfl⟩
theorem d_Fs_keep_1 : dz b_Fs_keep 1 (.getfield 12) 3 4 := ⟨by decide +kernel, rfl⟩
theorem d_Fs_keep_4 : dz b_Fs_keep 4 (.aload_n 1) 1 5 := ⟨by decide +kernel, rfl⟩
theorem d_Fs_keep_5 : dz b_Fs_keep 5 (.invokevirtual 22) 3 8 := ⟨by decide +kernel, rfl⟩
theorem d_Fs_keep_8 : dz b_Fs_keep 8 (.pop) 1 9 := ⟨by decide +kernel, rfl⟩
theorem d_Fs_keep_9 : dz b_Fs_keep 9 (.aload_n 0) 1 10 := ⟨by decide +kernel, rfl⟩
theorem d_Fs_keep_10 : dz b_Fs_keep 10 (.getfield 12) 3 13 := ⟨by decide +kernel, rfl⟩
theorem d_Fs_keep_13 : dz b_Fs_keep 13 (.invokevirtual 18) 3 16 := ⟨by decide +kernel, rfl⟩
theorem d_Fs_keep_16 : dz b_Fs_keep 16 (.iconst 1) 1 17 := ⟨by decide +kernel, rfl⟩
theorem d_Fs_keep_17 : dz b_Fs_keep 17 (.isub) 1 18 := ⟨by decide +kernel, rfl⟩
theorem d_Fs_keep_18 : dz b_Fs_keep 18 (.ireturn) 1 19 := ⟨by decide +kernel, rfl⟩
theorem d_Fs_giveUpOn_0 : dz b_Fs_giveUpOn 0 (.iload_n 1) 1 1 := ⟨by decide +kernel, rfl⟩
theorem d_Fs_giveUpOn_1 : dz b_Fs_giveUpOn 1 (.aload_n 0) 1 2 := ⟨by decide +kernel, rfl⟩
theorem d_Fs_giveUpOn_2 : dz b_Fs_giveUpOn 2 (.getfield 12) 3 5 := ⟨by decide +kernel, rfl⟩
theorem d_Fs_giveUpOn_5 : dz b_Fs_giveUpOn 5 (.invokevirtual 18) 3 8 := ⟨by decide +kernel, rfl⟩
theorem d_Fs_giveUpOn_8 : dz b_Fs_giveUpOn 8 (.invokestatic 26) 3 11 := ⟨by decide +kernel, rfl⟩
theorem d_Fs_giveUpOn_11 : dj b_Fs_giveUpOn 11 (.ifCond .eq) 14 31 := ⟨20, by decide +kernel, rfl, by decide⟩
theorem d_Fs_giveUpOn_14 : dz b_Fs_giveUpOn 14 (.aload_n 0) 1 15 := ⟨by decide +kernel, rfl⟩
theorem d_Fs_giveUpOn_15 : dz b_Fs_giveUpOn 15 (.getfield 12) 3 18 := ⟨by decide +kernel, rfl⟩
theorem d_Fs_giveUpOn_18 : dz b_Fs_giveUpOn 18 (.iload_n 1) 1 19 := ⟨by decide +kernel, rfl⟩
theorem d_Fs_giveUpOn_19 : dz b_Fs_giveUpOn 19 (.invokevirtual 30) 3 22 := ⟨by decide +kernel, rfl⟩
theorem d_Fs_giveUpOn_22 : dz b_Fs_giveUpOn 22 (.checkcast 34) 3 25 := ⟨by decide +kernel, rfl⟩
theorem d_Fs_giveUpOn_25 : dz b_Fs_giveUpOn 25 (.getfield 36) 3 28 := ⟨by decide +kernel, rfl⟩
theorem d_Fs_giveUpOn_28 : dj b_Fs_giveUpOn 28 (.ifCond .eq) 31 33 := ⟨5, by decide +kernel, rfl, by decide⟩
theorem d_Fs_giveUpOn_31 : dz b_Fs_giveUpOn 31 (.iconst 0) 1 32 := ⟨by decide +kernel, rfl⟩
theorem d_Fs_giveUpOn_32 : dz b_Fs_giveUpOn 32 (.ireturn) 1 33 := ⟨by decide +kernel, rfl⟩
theorem d_Fs_giveUpOn_33 : dz b_Fs_giveUpOn 33 (.aload_n 0) 1 34 := ⟨by decide +kernel, rfl⟩
theorem d_Fs_giveUpOn_34 : dz b_Fs_giveUpOn 34 (.getfield 12) 3 37 := ⟨by decide +kernel, rfl⟩
theorem d_Fs_giveUpOn_37 : dz b_Fs_giveUpOn 37 (.iload_n 1) 1 38 := ⟨by decide +kernel, rfl⟩
theorem d_Fs_giveUpOn_38 : dz b_Fs_giveUpOn 38 (.invokevirtual 30) 3 41 := ⟨by decide +kernel, rfl⟩
theorem d_Fs_giveUpOn_41 : dz b_Fs_giveUpOn 41 (.checkcast 34) 3 44 := ⟨by decide +kernel, rfl⟩
theorem d_Fs_giveUpOn_44 : dz b_Fs_giveUpOn 44 (.iconst 1) 1 45 := ⟨by decide +kernel, rfl⟩
theorem d_Fs_giveUpOn_45 : dz b_Fs_giveUpOn 45 (.putfield 36) 3 48 := ⟨by decide +kernel, rfl⟩
theorem d_Fs_giveUpOn_48 : dz b_Fs_giveUpOn 48 (.aload_n 0) 1 49 := ⟨by decide +kernel, rfl⟩
theorem d_Fs_giveUpOn_49 : dz b_Fs_giveUpOn 49 (.getfield 12) 3 52 := ⟨by decide +kernel, rfl⟩
theorem d_Fs_giveUpOn_52 : dz b_Fs_giveUpOn 52 (.iload_n 1) 1 53 := ⟨by decide +kernel, rfl⟩
theorem d_Fs_giveUpOn_53 : dz b_Fs_giveUpOn 53 (.invokevirtual 30) 3 56 := ⟨by decide +kernel, rfl⟩
theorem d_Fs_giveUpOn_56 : dz b_Fs_giveUpOn 56 (.checkcast 34) 3 59 := ⟨by decide +kernel, rfl⟩
theorem d_Fs_giveUpOn_59 : dz b_Fs_giveUpOn 59 (.iload_n 2) 1 60 := ⟨by decide +kernel, rfl⟩
theorem d_Fs_giveUpOn_60 : dz b_Fs_giveUpOn 60 (.putfield 40) 3 63 := ⟨by decide +kernel, rfl⟩
theorem d_Fs_giveUpOn_63 : dz b_Fs_giveUpOn 63 (.iconst 1) 1 64 := ⟨by decide +kernel, rfl⟩
theorem d_Fs_giveUpOn_64 : dz b_Fs_giveUpOn 64 (.ireturn) 1 65 := ⟨by decide +kernel, rfl⟩
theorem d_Fs_linesOf_0 : dz b_Fs_linesOf 0 (.iload_n 1) 1 1 := ⟨by decide +kernel, rfl⟩
theorem d_Fs_linesOf_1 : dz b_Fs_linesOf 1 (.aload_n 0) 1 2 := ⟨by decide +kernel, rfl⟩
theorem d_Fs_linesOf_2 : dz b_Fs_linesOf 2 (.getfield 12) 3 5 := ⟨by decide +kernel, rfl⟩
theorem d_Fs_linesOf_5 : dz b_Fs_linesOf 5 (.invokevirtual 18) 3 8 := ⟨by decide +kernel, rfl⟩
theorem d_Fs_linesOf_8 : dz b_Fs_linesOf 8 (.invokestatic 26) 3 11 := ⟨by decide +kernel, rfl⟩
theorem d_Fs_linesOf_11 : dj b_Fs_linesOf 11 (.ifCond .eq) 14 34 := ⟨23, by decide +kernel, rfl, by decide⟩
theorem d_Fs_linesOf_14 : dz b_Fs_linesOf 14 (.aload_n 0) 1 15 := ⟨by decide +kernel, rfl⟩
theorem d_Fs_linesOf_15 : dz b_Fs_linesOf 15 (.getfield 12) 3 18 := ⟨by decide +kernel, rfl⟩
theorem d_Fs_linesOf_18 : dz b_Fs_linesOf 18 (.iload_n 1) 1 19 := ⟨by decide +kernel, rfl⟩
theorem d_Fs_linesOf_19 : dz b_Fs_linesOf 19 (.invokevirtual 30) 3 22 := ⟨by decide +kernel, rfl⟩
theorem d_Fs_linesOf_22 : dz b_Fs_linesOf 22 (.checkcast 34) 3 25 := ⟨by decide +kernel, rfl⟩
theorem d_Fs_linesOf_25 : dz b_Fs_linesOf 25 (.getfield 44) 3 28 := ⟨by decide +kernel, rfl⟩
theorem d_Fs_linesOf_28 : dz b_Fs_linesOf 28 (.invokevirtual 18) 3 31 := ⟨by decide +kernel, rfl⟩
theorem d_Fs_linesOf_31 : dj b_Fs_linesOf 31 (.goto) 34 35 := ⟨4, by decide +kernel, rfl, by decide⟩
theorem d_Fs_linesOf_34 : dz b_Fs_linesOf 34 (.iconst (-1)) 1 35 := ⟨by decide +kernel, rfl⟩
theorem d_Fs_linesOf_35 : dz b_Fs_linesOf 35 (.ireturn) 1 36 := ⟨by decide +kernel, rfl⟩
theorem d_Li_init_0 : dz b_Li_init 0 (.aload_n 0) 1 1 := ⟨by decide +kernel, rfl⟩
theorem d_Li_init_1 : dz b_Li_init 1 (.invokespecial 3) 3 4 := ⟨by decide +kernel, rfl⟩
theorem d_Li_init_4 : dz b_Li_init 4 (.aload_n 0) 1 5 := ⟨by decide +kernel, rfl⟩
theorem d_Li_init_5 : dz b_Li_init 5 (.bipush 12) 2 7 := ⟨by decide +kernel, rfl⟩
theorem d_Li_init_7 : dz b_Li_init 7 (.newarray .int) 2 9 := ⟨by decide +kernel, rfl⟩
theorem d_Li_init_9 : dz b_Li_init 9 (.putfield 9) 3 12 := ⟨by decide +kernel, rfl⟩
theorem d_Li_init_12 : dz b_Li_init 12 (.aload_n 0) 1 13 := ⟨by decide +kernel, rfl⟩
theorem d_Li_init_13 : dz b_Li_init 13 (.iconst 0) 1 14 := ⟨by decide +kernel, rfl⟩
theorem d_Li_init_14 : dz b_Li_init 14 (.putfield 15) 3 17 := ⟨by decide +kernel, rfl⟩
theorem d_Li_init_17 : dz b_Li_init 17 (.aload_n 0) 1 18 := ⟨by decide +kernel, rfl⟩
theorem d_Li_init_18 : dz b_Li_init 18 (.iconst (-1)) 1 19 := ⟨by decide +kernel, rfl⟩
theorem d_Li_init_19 : dz b_Li_init 19 (.putfield 19) 3 22 := ⟨by decide +kernel, rfl⟩
theorem d_Li_init_22 : dz b_Li_init 22 (.aload_n 0) 1 23 := ⟨by decide +kernel, rfl⟩
theorem d_Li_init_23 : dz b_Li_init 23 (.iload_n 1) 1 24 := ⟨by decide +kernel, rfl⟩
theorem d_Li_init_24 : dz b_Li_init 24 (.putfield 23) 3 27 := ⟨by decide +kernel, rfl⟩
theorem d_Li_init_27 : dz b_Li_init 27 (.aload_n 0) 1 28 := ⟨by decide +kernel, rfl⟩
theorem d_Li_init_28 : dz b_Li_init 28 (.iload_n 2) 1 29 := ⟨by decide +kernel, rfl⟩
theorem d_Li_init_29 : dz b_Li_init 29 (.putfield 26) 3 32 := ⟨by decide +kernel, rfl⟩
theorem d_Li_init_32 : dz b_Li_init 32 (.return_) 1 33 := ⟨by decide +kernel, rfl⟩
theorem d_Li_isOf_0 : dz b_Li_isOf 0 (.aload_n 0) 1 1 := ⟨by decide +kernel, rfl⟩
theorem d_Li_isOf_1 : dz b_Li_isOf 1 (.getfield 26) 3 4 := ⟨by decide +kernel, rfl⟩
theorem d_Li_isOf_4 : dz b_Li_isOf 4 (.iload_n 1) 1 5 := ⟨by decide +kernel, rfl⟩
theorem d_Li_isOf_5 : dj b_Li_isOf 5 (.if_icmp .ne) 8 20 := ⟨15, by decide +kernel, rfl, by decide⟩
theorem d_Li_isOf_8 : dz b_Li_isOf 8 (.aload_n 0) 1 9 := ⟨by decide +kernel, rfl⟩
theorem d_Li_isOf_9 : dz b_Li_isOf 9 (.getfield 23) 3 12 := ⟨by decide +kernel, rfl⟩
theorem d_Li_isOf_12 : dz b_Li_isOf 12 (.iload_n 2) 1 13 := ⟨by decide +kernel, rfl⟩
theorem d_Li_isOf_13 : dj b_Li_isOf 13 (.if_icmp .ne) 16 20 := ⟨7, by decide +kernel, rfl, by decide⟩
theorem d_Li_isOf_16 : dz b_Li_isOf 16 (.iconst 1) 1 17 := ⟨by decide +kernel, rfl⟩
theorem d_Li_isOf_17 : dj b_Li_isOf 17 (.goto) 20 21 := ⟨4, by decide +kernel, rfl, by decide⟩
theorem d_Li_isOf_20 : dz b_Li_isOf 20 (.iconst 0) 1 21 := ⟨by decide +kernel, rfl⟩
theorem d_Li_isOf_21 : dz b_Li_isOf 21 (.ireturn) 1 22 := ⟨by decide +kernel, rfl⟩
theorem d_Li_names_0 : dz b_Li_names 0 (.aload_n 0) 1 1 := ⟨by decide +kernel, rfl⟩
theorem d_Li_names_1 : dz b_Li_names 1 (.getfield 9) 3 4 := ⟨by decide +kernel, rfl⟩
theorem d_Li_names_4 : dz b_Li_names 4 (.iload_n 1) 1 5 := ⟨by decide +kernel, rfl⟩
theorem d_Li_names_5 : dz b_Li_names 5 (.iaload) 1 6 := ⟨by decide +kernel, rfl⟩
theorem d_Li_names_6 : dj b_Li_names 6 (.ifCond .eq) 9 13 := ⟨7, by decide +kernel, rfl, by decide⟩
theorem d_Li_names_9 : dz b_Li_names 9 (.iconst 1) 1 10 := ⟨by decide +kernel, rfl⟩
theorem d_Li_names_10 : dj b_Li_names 10 (.goto) 13 14 := ⟨4, by decide +kernel, rfl, by decide⟩
theorem d_Li_names_13 : dz b_Li_names 13 (.iconst 0) 1 14 := ⟨by decide +kernel, rfl⟩
theorem d_Li_names_14 : dz b_Li_names 14 (.ireturn) 1 15 := ⟨by decide +kernel, rfl⟩
theorem d_Li_tells_0 : dz b_Li_tells 0 (.aload_n 0) 1 1 := ⟨by decide +kernel, rfl⟩
theorem d_Li_tells_1 : dz b_Li_tells 1 (.getfield 9) 3 4 := ⟨by decide +kernel, rfl⟩
theorem d_Li_tells_4 : dz b_Li_tells 4 (.iload_n 1) 1 5 := ⟨by decide +kernel, rfl⟩
theorem d_Li_tells_5 : dz b_Li_tells 5 (.iaload) 1 6 := ⟨by decide +kernel, rfl⟩
theorem d_Li_tells_6 : dz b_Li_tells 6 (.iconst (-1)) 1 7 := ⟨by decide +kernel, rfl⟩
theorem d_Li_tells_7 : dj b_Li_tells 7 (.if_icmp .ne) 10 12 := ⟨5, by decide +kernel, rfl, by decide⟩
theorem d_Li_tells_10 : dz b_Li_tells 10 (.iconst 0) 1 11 := ⟨by decide +kernel, rfl⟩
theorem d_Li_tells_11 : dz b_Li_tells 11 (.ireturn) 1 12 := ⟨by decide +kernel, rfl⟩
theorem d_Li_tells_12 : dz b_Li_tells 12 (.aload_n 0) 1 13 := ⟨by decide +kernel, rfl⟩
theorem d_Li_tells_13 : dz b_Li_tells 13 (.getfield 9) 3 16 := ⟨by decide +kernel, rfl⟩
theorem d_Li_tells_16 : dz b_Li_tells 16 (.iload_n 1) 1 17 := ⟨by decide +kernel, rfl⟩
theorem d_Li_tells_17 : dz b_Li_tells 17 (.iaload) 1 18 := ⟨by decide +kernel, rfl⟩
theorem d_Li_tells_18 : dj b_Li_tells 18 (.ifCond .ne) 21 34 := ⟨16, by decide +kernel, rfl, by decide⟩
theorem d_Li_tells_21 : dz b_Li_tells 21 (.aload_n 0) 1 22 := ⟨by decide +kernel, rfl⟩
theorem d_Li_tells_22 : dz b_Li_tells 22 (.getfield 15) 3 25 := ⟨by decide +kernel, rfl⟩
theorem d_Li_tells_25 : dj b_Li_tells 25 (.ifCond .eq) 28 32 := ⟨7, by decide +kernel, rfl, by decide⟩
theorem d_Li_tells_28 : dz b_Li_tells 28 (.iconst 0) 1 29 := ⟨by decide +kernel, rfl⟩
theorem d_Li_tells_29 : dj b_Li_tells 29 (.goto) 32 33 := ⟨4, by decide +kernel, rfl, by decide⟩
theorem d_Li_tells_32 : dz b_Li_tells 32 (.iconst 1) 1 33 := ⟨by decide +kernel, rfl⟩
theorem d_Li_tells_33 : dz b_Li_tells 33 (.ireturn) 1 34 := ⟨by decide +kernel, rfl⟩
theorem d_Li_tells_34 : dz b_Li_tells 34 (.aload_n 0) 1 35 := ⟨by decide +kernel, rfl⟩
theorem d_Li_tells_35 : dz b_Li_tells 35 (.getfield 9) 3 38 := ⟨by decide +kernel, rfl⟩
theorem d_Li_tells_38 : dz b_Li_tells 38 (.iload_n 1) 1 39 := ⟨by decide +kernel, rfl⟩
theorem d_Li_tells_39 : dz b_Li_tells 39 (.iaload) 1 40 := ⟨by decide +kernel, rfl⟩
theorem d_Li_tells_40 : dz b_Li_tells 40 (.ireturn) 1 41 := ⟨by decide +kernel, rfl⟩
theorem d_Me_init_0 : dz b_Me_init 0 (.aload_n 0) 1 1 := ⟨by decide +kernel, rfl⟩
theorem d_Me_init_1 : dz b_Me_init 1 (.invokespecial 3) 3 4 := ⟨by decide +kernel, rfl⟩
theorem d_Me_init_4 : dz b_Me_init 4 (.aload_n 0) 1 5 := ⟨by decide +kernel, rfl⟩
theorem d_Me_init_5 : dz b_Me_init 5 (.bipush 12) 2 7 := ⟨by decide +kernel, rfl⟩
theorem d_Me_init_7 : dz b_Me_init 7 (.newarray .long) 2 9 := ⟨by decide +kernel, rfl⟩
theorem d_Me_init_9 : dz b_Me_init 9 (.putfield 9) 3 12 := ⟨by decide +kernel, rfl⟩
theorem d_Me_init_12 : dz b_Me_init 12 (.aload_n 0) 1 13 := ⟨by decide +kernel, rfl⟩
theorem d_Me_init_13 : dz b_Me_init 13 (.bipush 12) 2 15 := ⟨by decide +kernel, rfl⟩
theorem d_Me_init_15 : dz b_Me_init 15 (.newarray .int) 2 17 := ⟨by decide +kernel, rfl⟩
theorem d_Me_init_17 : dz b_Me_init 17 (.putfield 15) 3 20 := ⟨by decide +kernel, rfl⟩
theorem d_Me_init_20 : dz b_Me_init 20 (.aload_n 0) 1 21 := ⟨by decide +kernel, rfl⟩
theorem d_Me_init_21 : dz b_Me_init 21 (.bipush 12) 2 23 := ⟨by decide +kernel, rfl⟩
theorem d_Me_init_23 : dz b_Me_init 23 (.newarray .int) 2 25 := ⟨by decide +kernel, rfl⟩
theorem d_Me_init_25 : dz b_Me_init 25 (.putfield 19) 3 28 := ⟨by decide +kernel, rfl⟩
theorem d_Me_init_28 : dz b_Me_init 28 (.aload_n 0) 1 29 := ⟨by decide +kernel, rfl⟩
theorem d_Me_init_29 : dz b_Me_init 29 (.iconst 0) 1 30 := ⟨by decide +kernel, rfl⟩
theorem d_Me_init_30 : dz b_Me_init 30 (.putfield 22) 3 33 := ⟨by decide +kernel, rfl⟩
theorem d_Me_init_33 : dz b_Me_init 33 (.return_) 1 34 := ⟨by decide +kernel, rfl⟩
theorem d_Me_has_0 : dz b_Me_has 0 (.iload_n 1) 1 1 := ⟨by decide +kernel, rfl⟩
theorem d_Me_has_1 : dz b_Me_has 1 (.aload_n 0) 1 2 := ⟨by decide +kernel, rfl⟩
theorem d_Me_has_2 : dz b_Me_has 2 (.getfield 22) 3 5 := ⟨by decide +kernel, rfl⟩
theorem d_Me_has_5 : dz b_Me_has 5 (.invokestatic 26) 3 8 := ⟨by decide +kernel, rfl⟩
theorem d_Me_has_8 : dz b_Me_has 8 (.ireturn) 1 9 := ⟨by decide +kernel, rfl⟩
theorem d_Me_add_0 : dz b_Me_add 0 (.lload_n 1) 1 1 := ⟨by decide +kernel, rfl⟩
theorem d_Me_add_1 : dz b_Me_add 1 (.invokestatic 30) 3 4 := ⟨by decide +kernel, rfl⟩
theorem d_Me_add_4 : dj b_Me_add 4 (.ifCond .le) 7 18 := ⟨14, by decide +kernel, rfl, by decide⟩
theorem d_Me_add_7 : dz b_Me_add 7 (.lload_n 1) 1 8 := ⟨by decide +kernel, rfl⟩
theorem d_Me_add_8 : dz b_Me_add 8 (.invokestatic 34) 3 11 := ⟨by decide +kernel, rfl⟩
theorem d_Me_add_11 : dj b_Me_add 11 (.ifCond .eq) 14 18 := ⟨7, by decide +kernel, rfl, by decide⟩
theorem d_Me_add_14 : dz b_Me_add 14 (.iconst 1) 1 15 := ⟨by decide +kernel, rfl⟩
theorem d_Me_add_15 : dj b_Me_add 15 (.goto) 18 19 := ⟨4, by decide +kernel, rfl, by decide⟩
theorem d_Me_add_18 : dz b_Me_add 18 (.iconst 0) 1 19 := ⟨by decide +kernel, rfl⟩
theorem d_Me_add_19 : dz b_Me_add 19 (.istore 5) 2 21 := ⟨by decide +kernel, rfl⟩
theorem d_Me_add_21 : dz b_Me_add 21 (.iload 5) 2 23 := ⟨by decide +kernel, rfl⟩
theorem d_Me_add_23 : dj b_Me_add 23 (.ifCond .eq) 26 44 := ⟨21, by decide +kernel, rfl, by decide⟩
theorem d_Me_add_26 : dz b_Me_add 26 (.aload_n 0) 1 27 := ⟨by decide +kernel, rfl⟩
theorem d_Me_add_27 : dz b_Me_add 27 (.getfield 22) 3 30 := ⟨by decide +kernel, rfl⟩
theorem d_Me_add_30 : dz b_Me_add 30 (.bipush 12) 2 32 := ⟨by decide +kernel, rfl⟩
theorem d_Me_add_32 : dj b_Me_add 32 (.if_icmp .ge) 35 44 := ⟨12, by decide +kernel, rfl, by decide⟩
theorem d_Me_add_35 : dz b_Me_add 35 (.aload_n 0) 1 36 := ⟨by decide +kernel, rfl⟩
theorem d_Me_add_36 : dz b_Me_add 36 (.lload_n 1) 1 37 := ⟨by decide +kernel, rfl⟩
theorem d_Me_add_37 : dz b_Me_add 37 (.invokevirtual 38) 3 40 := ⟨by decide +kernel, rfl⟩
theorem d_Me_add_40 : dz b_Me_add 40 (.iconst (-1)) 1 41 := ⟨by decide +kernel, rfl⟩
theorem d_Me_add_41 : dj b_Me_add 41 (.if_icmp .eq) 44 46 := ⟨5, by decide +kernel, rfl, by decide⟩
theorem d_Me_add_44 : dz b_Me_add 44 (.iconst (-1)) 1 45 := ⟨by decide +kernel, rfl⟩
theorem d_Me_add_45 : dz b_Me_add 45 (.ireturn) 1 46 := ⟨by decide +kernel, rfl⟩
theorem d_Me_add_46 : dz b_Me_add 46 (.aload_n 0) 1 47 := ⟨by decide +kernel, rfl⟩
theorem d_Me_add_47 : dz b_Me_add 47 (.getfield 9) 3 50 := ⟨by decide +kernel, rfl⟩
theorem d_Me_add_50 : dz b_Me_add 50 (.aload_n 0) 1 51 := ⟨by decide +kernel, rfl⟩
theorem d_Me_add_51 : dz b_Me_add 51 (.getfield 22) 3 54 := ⟨by decide +kernel, rfl⟩
theorem d_Me_add_54 : dz b_Me_add 54 (.lload_n 1) 1 55 := ⟨by decide +kernel, rfl⟩
theorem d_Me_add_55 : dz b_Me_add 55 (.lastore) 1 56 := ⟨by decide +kernel, rfl⟩
theorem d_Me_add_56 : dz b_Me_add 56 (.aload_n 0) 1 57 := ⟨by decide +kernel, rfl⟩
theorem d_Me_add_57 : dz b_Me_add 57 (.getfield 15) 3 60 := ⟨by decide +kernel, rfl⟩
theorem d_Me_add_60 : dz b_Me_add 60 (.aload_n 0) 1 61 := ⟨by decide +kernel, rfl⟩
theorem d_Me_add_61 : dz b_Me_add 61 (.getfield 22) 3 64 := ⟨by decide +kernel, rfl⟩
theorem d_Me_add_64 : dz b_Me_add 64 (.iload_n 3) 1 65 := ⟨by decide +kernel, rfl⟩
theorem d_Me_add_65 : dz b_Me_add 65 (.iastore) 1 66 := ⟨by decide +kernel, rfl⟩
theorem d_Me_add_66 : dz b_Me_add 66 (.aload_n 0) 1 67 := ⟨by decide +kernel, rfl⟩
theorem d_Me_add_67 : dz b_Me_add 67 (.getfield 19) 3 70 := ⟨by decide +kernel, rfl⟩
theorem d_Me_add_70 : dz b_Me_add 70 (.aload_n 0) 1 71 := ⟨by decide +kernel, rfl⟩
theorem d_Me_add_71 : dz b_Me_add 71 (.getfield 22) 3 74 := ⟨by decide +kernel, rfl⟩
theorem d_Me_add_74 : dz b_Me_add 74 (.iload 4) 2 76 := ⟨by decide +kernel, rfl⟩
theorem d_Me_add_76 : dz b_Me_add 76 (.iastore) 1 77 := ⟨by decide +kernel, rfl⟩
theorem d_Me_add_77 : dz b_Me_add 77 (.aload_n 0) 1 78 := ⟨by decide +kernel, rfl⟩
theorem d_Me_add_78 : dz b_Me_add 78 (.dup) 1 79 := ⟨by decide +kernel, rfl⟩
theorem d_Me_add_79 : dz b_Me_add 79 (.getfield 22) 3 82 := ⟨by decide +kernel, rfl⟩
theorem d_Me_add_82 : dz b_Me_add 82 (.iconst 1) 1 83 := ⟨by decide +kernel, rfl⟩
theorem d_Me_add_83 : dz b_Me_add 83 (.iadd) 1 84 := ⟨by decide +kernel, rfl⟩
theorem d_Me_add_84 : dz b_Me_add 84 (.putfield 22) 3 87 := ⟨by decide +kernel, rfl⟩
theorem d_Me_add_87 : dz b_Me_add 87 (.aload_n 0) 1 88 := ⟨by decide +kernel, rfl⟩
theorem d_Me_add_88 : dz b_Me_add 88 (.getfield 22) 3 91 := ⟨by decide +kernel, rfl⟩
theorem d_Me_add_91 : dz b_Me_add 91 (.iconst 1) 1 92 := ⟨by decide +kernel, rfl⟩
theorem d_Me_add_92 : dz b_Me_add 92 (.isub) 1 93 := ⟨by decide +kernel, rfl⟩
theorem d_Me_add_93 : dz b_Me_add 93 (.ireturn) 1 94 := ⟨by decide +kernel, rfl⟩
theorem d_Me_find_0 : dz b_Me_find 0 (.iconst 0) 1 1 := ⟨by decide +kernel, rfl⟩
theorem d_Me_find_1 : dz b_Me_find 1 (.istore_n 3) 1 2 := ⟨by decide +kernel, rfl⟩
theorem d_Me_find_2 : dz b_Me_find 2 (.iload_n 3) 1 3 := ⟨by decide +kernel, rfl⟩
theorem d_Me_find_3 : dz b_Me_find 3 (.aload_n 0) 1 4 := ⟨by decide +kernel, rfl⟩
theorem d_Me_find_4 : dz b_Me_find 4 (.getfield 22) 3 7 := ⟨by decide +kernel, rfl⟩
theorem d_Me_find_7 : dj b_Me_find 7 (.if_icmp .ge) 10 29 := ⟨22, by decide +kernel, rfl, by decide⟩
theorem d_Me_find_10 : dz b_Me_find 10 (.aload_n 0) 1 11 := ⟨by decide +kernel, rfl⟩
theorem d_Me_find_11 : dz b_Me_find 11 (.getfield 9) 3 14 := ⟨by decide +kernel, rfl⟩
theorem d_Me_find_14 : dz b_Me_find 14 (.iload_n 3) 1 15 := ⟨by decide +kernel, rfl⟩
theorem d_Me_find_15 : dz b_Me_find 15 (.laload) 1 16 := ⟨by decide +kernel, rfl⟩
theorem d_Me_find_16 : dz b_Me_find 16 (.lload_n 1) 1 17 := ⟨by decide +kernel, rfl⟩
theorem d_Me_find_17 : dz b_Me_find 17 (.lcmp) 1 18 := ⟨by decide +kernel, rfl⟩
theorem d_Me_find_18 : dj b_Me_find 18 (.ifCond .ne) 21 23 := ⟨5, by decide +kernel, rfl, by decide⟩
theorem d_Me_find_21 : dz b_Me_find 21 (.iload_n 3) 1 22 := ⟨by decide +kernel, rfl⟩
theorem d_Me_find_22 : dz b_Me_find 22 (.ireturn) 1 23 := ⟨by decide +kernel, rfl⟩
theorem d_Me_find_23 : dz b_Me_find 23 (.iinc 3 1) 3 26 := ⟨by decide +kernel, rfl⟩
theorem d_Me_find_26 : dj b_Me_find 26 (.goto) 29 2 := ⟨(-24), by decide +kernel, rfl, by decide⟩
theorem d_Me_find_29 : dz b_Me_find 29 (.iconst (-1)) 1 30 := ⟨by decide +kernel, rfl⟩
theorem d_Me_find_30 : dz b_Me_find 30 (.ireturn) 1 31 := ⟨by decide +kernel, rfl⟩
theorem d_Me_findInGang_0 : dz b_Me_findInGang 0 (.aload_n 0) 1 1 := ⟨by decide +kernel, rfl⟩
theorem d_Me_findInGang_1 : dz b_Me_findInGang 1 (.lload_n 1) 1 2 := ⟨by decide +kernel, rfl⟩
theorem d_Me_findInGang_2 : dz b_Me_findInGang 2 (.invokevirtual 38) 3 5 := ⟨by decide +kernel, rfl⟩
theorem d_Me_findInGang_5 : dz b_Me_findInGang 5 (.istore 4) 2 7 := ⟨by decide +kernel, rfl⟩
theorem d_Me_findInGang_7 : dz b_Me_findInGang 7 (.iload 4) 2 9 := ⟨by decide +kernel, rfl⟩
theorem d_Me_findInGang_9 : dz b_Me_findInGang 9 (.iconst (-1)) 1 10 := ⟨by decide +kernel, rfl⟩
theorem d_Me_findInGang_10 : dj b_Me_findInGang 10 (.if_icmp .eq) 13 29 := ⟨19, by decide +kernel, rfl, by decide⟩
theorem d_Me_findInGang_13 : dz b_Me_findInGang 13 (.aload_n 0) 1 14 := ⟨by decide +kernel, rfl⟩
theorem d_Me_findInGang_14 : dz b_Me_findInGang 14 (.getfield 15) 3 17 := ⟨by decide +kernel, rfl⟩
theorem d_Me_findInGang_17 : dz b_Me_findInGang 17 (.iload 4) 2 19 := ⟨by decide +kernel, rfl⟩
theorem d_Me_findInGang_19 : dz b_Me_findInGang 19 (.iaload) 1 20 := ⟨by decide +kernel, rfl⟩
theorem d_Me_findInGang_20 : dz b_Me_findInGang 20 (.iload_n 3) 1 21 := ⟨by decide +kernel, rfl⟩
theorem d_Me_findInGang_21 : dj b_Me_findInGang 21 (.if_icmp .ne) 24 29 := ⟨8, by decide +kernel, rfl, by decide⟩
theorem d_Me_findInGang_24 : dz b_Me_findInGang 24 (.iload 4) 2 26 := ⟨by decide +kernel, rfl⟩
theorem d_Me_findInGang_26 : dj b_Me_findInGang 26 (.goto) 29 30 := ⟨4, by decide +kernel, rfl, by decide⟩
theorem d_Me_findInGang_29 : dz b_Me_findInGang 29 (.iconst (-1)) 1 30 := ⟨by decide +kernel, rfl⟩
theorem d_Me_findInGang_30 : dz b_Me_findInGang 30 (.ireturn) 1 31 := ⟨by decide +kernel, rfl⟩
theorem d_Ra_init_0 : dz b_Ra_init 0 (.aload_n 0) 1 1 := ⟨by decide +kernel, rfl⟩
theorem d_Ra_init_1 : dz b_Ra_init 1 (.invokespecial 3) 3 4 := ⟨by decide +kernel, rfl⟩
theorem d_Ra_init_4 : dz b_Ra_init 4 (.aload_n 0) 1 5 := ⟨by decide +kernel, rfl⟩
theorem d_Ra_init_5 : dz b_Ra_init 5 (.iconst 4) 1 6 := ⟨by decide +kernel, rfl⟩
theorem d_Ra_init_6 : dz b_Ra_init 6 (.newarray .int) 2 8 := ⟨by decide +kernel, rfl⟩
theorem d_Ra_init_8 : dz b_Ra_init 8 (.dup) 1 9 := ⟨by decide +kernel, rfl⟩
theorem d_Ra_init_9 : dz b_Ra_init 9 (.iconst 0) 1 10 := ⟨by decide +kernel, rfl⟩
theorem d_Ra_init_10 : dz b_Ra_init 10 (.iconst 4) 1 11 := ⟨by decide +kernel, rfl⟩
theorem d_Ra_init_11 : dz b_Ra_init 11 (.iastore) 1 12 := ⟨by decide +kernel, rfl⟩
theorem d_Ra_init_12 : dz b_Ra_init 12 (.dup) 1 13 := ⟨by decide +kernel, rfl⟩
theorem d_Ra_init_13 : dz b_Ra_init 13 (.iconst 1) 1 14 := ⟨by decide +kernel, rfl⟩
theorem d_Ra_init_14 : dz b_Ra_init 14 (.iconst 5) 1 15 := ⟨by decide +kernel, rfl⟩
theorem d_Ra_init_15 : dz b_Ra_init 15 (.iastore) 1 16 := ⟨by decide +kernel, rfl⟩
theorem d_Ra_init_16 : dz b_Ra_init 16 (.dup) 1 17 := ⟨by decide +kernel, rfl⟩
theorem d_Ra_init_17 : dz b_Ra_init 17 (.iconst 2) 1 18 := ⟨by decide +kernel, rfl⟩
theorem d_Ra_init_18 : dz b_Ra_init 18 (.bipush 6) 2 20 := ⟨by decide +kernel, rfl⟩
theorem d_Ra_init_20 : dz b_Ra_init 20 (.iastore) 1 21 := ⟨by decide +kernel, rfl⟩
theorem d_Ra_init_21 : dz b_Ra_init 21 (.dup) 1 22 := ⟨by decide +kernel, rfl⟩
theorem d_Ra_init_22 : dz b_Ra_init 22 (.iconst 3) 1 23 := ⟨by decide +kernel, rfl⟩
theorem d_Ra_init_23 : dz b_Ra_init 23 (.bipush 7) 2 25 := ⟨by decide +kernel, rfl⟩
theorem d_Ra_init_25 : dz b_Ra_init 25 (.iastore) 1 26 := ⟨by decide +kernel, rfl⟩
theorem d_Ra_init_26 : dz b_Ra_init 26 (.putfield 9) 3 29 := ⟨by decide +kernel, rfl⟩
theorem d_Ra_init_29 : dz b_Ra_init 29 (.aload_n 0) 1 30 := ⟨by decide +kernel, rfl⟩
theorem d_Ra_init_30 : dz b_Ra_init 30 (.bipush 60) 2 32 := ⟨by decide +kernel, rfl⟩
theorem d_Ra_init_32 : dz b_Ra_init 32 (.newarray .int) 2 34 := ⟨by decide +kernel, rfl⟩
theorem d_Ra_init_34 : dz b_Ra_init 34 (.putfield 15) 3 37 := ⟨by decide +kernel, rfl⟩
theorem d_Ra_init_37 : dz b_Ra_init 37 (.aload_n 0) 1 38 := ⟨by decide +kernel, rfl⟩
theorem d_Ra_init_38 : dz b_Ra_init 38 (.bipush 60) 2 40 := ⟨by decide +kernel, rfl⟩
theorem d_Ra_init_40 : dz b_Ra_init 40 (.newarray .int) 2 42 := ⟨by decide +kernel, rfl⟩
theorem d_Ra_init_42 : dz b_Ra_init 42 (.putfield 18) 3 45 := ⟨by decide +kernel, rfl⟩
theorem d_Ra_init_45 : dz b_Ra_init 45 (.aload_n 0) 1 46 := ⟨by decide +kernel, rfl⟩
theorem d_Ra_init_46 : dz b_Ra_init 46 (.bipush 60) 2 48 := ⟨by decide +kernel, rfl⟩
theorem d_Ra_init_48 : dz b_Ra_init 48 (.newarray .int) 2 50 := ⟨by decide +kernel, rfl⟩
theorem d_Ra_init_50 : dz b_Ra_init 50 (.putfield 21) 3 53 := ⟨by decide +kernel, rfl⟩
theorem d_Ra_init_53 : dz b_Ra_init 53 (.aload_n 0) 1 54 := ⟨by decide +kernel, rfl⟩
theorem d_Ra_init_54 : dz b_Ra_init 54 (.iconst 0) 1 55 := ⟨by decide +kernel, rfl⟩
theorem d_Ra_init_55 : dz b_Ra_init 55 (.putfield 24) 3 58 := ⟨by decide +kernel, rfl⟩
theorem d_Ra_init_58 : dz b_Ra_init 58 (.aload_n 0) 1 59 := ⟨by decide +kernel, rfl⟩
theorem d_Ra_init_59 : dz b_Ra_init 59 (.aload_n 1) 1 60 := ⟨by decide +kernel, rfl⟩
theorem d_Ra_init_60 : dz b_Ra_init 60 (.putfield 28) 3 63 := ⟨by decide +kernel, rfl⟩
theorem d_Ra_init_63 : dz b_Ra_init 63 (.return_) 1 64 := ⟨by decide +kernel, rfl⟩
theorem d_Ra_setSacks_0 : dz b_Ra_setSacks 0 (.iload_n 2) 1 1 := ⟨by decide +kernel, rfl⟩
theorem d_Ra_setSacks_1 : dj b_Ra_setSacks 1 (.ifCond .lt) 4 10 := ⟨9, by decide +kernel, rfl, by decide⟩
theorem d_Ra_setSacks_4 : dz b_Ra_setSacks 4 (.iload_n 2) 1 5 := ⟨by decide +kernel, rfl⟩
theorem d_Ra_setSacks_5 : dz b_Ra_setSacks 5 (.bipush 100) 2 7 := ⟨by decide +kernel, rfl⟩
theorem d_Ra_setSacks_7 : dj b_Ra_setSacks 7 (.if_icmp .le) 10 12 := ⟨5, by decide +kernel, rfl, by decide⟩
theorem d_Ra_setSacks_10 : dz b_Ra_setSacks 10 (.iconst 0) 1 11 := ⟨by decide +kernel, rfl⟩
theorem d_Ra_setSacks_11 : dz b_Ra_setSacks 11 (.ireturn) 1 12 := ⟨by decide +kernel, rfl⟩
theorem d_Ra_setSacks_12 : dz b_Ra_setSacks 12 (.aload_n 0) 1 13 := ⟨by decide +kernel, rfl⟩
theorem d_Ra_setSacks_13 : dz b_Ra_setSacks 13 (.getfield 9) 3 16 := ⟨by decide +kernel, rfl⟩
theorem d_Ra_setSacks_16 : dz b_Ra_setSacks 16 (.iload_n 1) 1 17 := ⟨by decide +kernel, rfl⟩
theorem d_Ra_setSacks_17 : dz b_Ra_setSacks 17 (.iload_n 2) 1 18 := ⟨by decide +kernel, rfl⟩
theorem d_Ra_setSacks_18 : dz b_Ra_setSacks 18 (.iastore) 1 19 := ⟨by decide +kernel, rfl⟩
theorem d_Ra_setSacks_19 : dz b_Ra_setSacks 19 (.iconst 1) 1 20 := ⟨by decide +kernel, rfl⟩
theorem d_Ra_setSacks_20 : dz b_Ra_setSacks 20 (.ireturn) 1 21 := ⟨by decide +kernel, rfl⟩
theorem d_Ra_take_0 : dz b_Ra_take 0 (.iload_n 3) 1 1 := ⟨by decide +kernel, rfl⟩
theorem d_Ra_take_1 : dz b_Ra_take 1 (.iconst 1) 1 2 := ⟨by decide +kernel, rfl⟩
theorem d_Ra_take_2 : dj b_Ra_take 2 (.if_icmp .lt) 5 21 := ⟨19, by decide +kernel, rfl, by decide⟩
theorem d_Ra_take_5 : dz b_Ra_take 5 (.iload_n 3) 1 6 := ⟨by decide +kernel, rfl⟩
theorem d_Ra_take_6 : dz b_Ra_take 6 (.sipush 1000) 3 9 := ⟨by decide +kernel, rfl⟩
theorem d_Ra_take_9 : dj b_Ra_take 9 (.if_icmp .gt) 12 21 := ⟨12, by decide +kernel, rfl, by decide⟩
theorem d_Ra_take_12 : dz b_Ra_take 12 (.aload_n 0) 1 13 := ⟨by decide +kernel, rfl⟩
theorem d_Ra_take_13 : dz b_Ra_take 13 (.getfield 24) 3 16 := ⟨by decide +kernel, rfl⟩
theorem d_Ra_take_16 : dz b_Ra_take 16 (.bipush 60) 2 18 := ⟨by decide +kernel, rfl⟩
theorem d_Ra_take_18 : dj b_Ra_take 18 (.if_icmp .lt) 21 23 := ⟨5, by decide +kernel, rfl, by decide⟩
theorem d_Ra_take_21 : dz b_Ra_take 21 (.iconst (-1)) 1 22 := ⟨by decide +kernel, rfl⟩
theorem d_Ra_take_22 : dz b_Ra_take 22 (.ireturn) 1 23 := ⟨by decide +kernel, rfl⟩
theorem d_Ra_take_23 : dz b_Ra_take 23 (.aload_n 0) 1 24 := ⟨by decide +kernel, rfl⟩
theorem d_Ra_take_24 : dz b_Ra_take 24 (.getfield 15) 3 27 := ⟨by decide +kernel, rfl⟩
theorem d_Ra_take_27 : dz b_Ra_take 27 (.aload_n 0) 1 28 := ⟨by decide +kernel, rfl⟩
theorem d_Ra_take_28 : dz b_Ra_take 28 (.getfield 24) 3 31 := ⟨by decide +kernel, rfl⟩
theorem d_Ra_take_31 : dz b_Ra_take 31 (.iload_n 1) 1 32 := ⟨by decide +kernel, rfl⟩
theorem d_Ra_take_32 : dz b_Ra_take 32 (.iastore) 1 33 := ⟨by decide +kernel, rfl⟩
theorem d_Ra_take_33 : dz b_Ra_take 33 (.aload_n 0) 1 34 := ⟨by decide +kernel, rfl⟩
theorem d_Ra_take_34 : dz b_Ra_take 34 (.getfield 18) 3 37 := ⟨by decide +kernel, rfl⟩
theorem d_Ra_take_37 : dz b_Ra_take 37 (.aload_n 0) 1 38 := ⟨by decide +kernel, rfl⟩
theorem d_Ra_take_38 : dz b_Ra_take 38 (.getfield 24) 3 41 := ⟨by decide +kernel, rfl⟩
theorem d_Ra_take_41 : dz b_Ra_take 41 (.iload_n 2) 1 42 := ⟨by decide +kernel, rfl⟩
theorem d_Ra_take_42 : dz b_Ra_take 42 (.iastore) 1 43 := ⟨by decide +kernel, rfl⟩
theorem d_Ra_take_43 : dz b_Ra_take 43 (.aload_n 0) 1 44 := ⟨by decide +kernel, rfl⟩
theorem d_Ra_take_44 : dz b_Ra_take 44 (.getfield 21) 3 47 := ⟨by decide +kernel, rfl⟩
theorem d_Ra_take_47 : dz b_Ra_take 47 (.aload_n 0) 1 48 := ⟨by decide +kernel, rfl⟩
theorem d_Ra_take_48 : dz b_Ra_take 48 (.getfield 24) 3 51 := ⟨by decide +kernel, rfl⟩
theorem d_Ra_take_51 : dz b_Ra_take 51 (.iload_n 3) 1 52 := ⟨by decide +kernel, rfl⟩
theorem d_Ra_take_52 : dz b_Ra_take 52 (.iastore) 1 53 := ⟨by decide +kernel, rfl⟩
theorem d_Ra_take_53 : dz b_Ra_take 53 (.aload_n 0) 1 54 := ⟨by decide +kernel, rfl⟩
theorem d_Ra_take_54 : dz b_Ra_take 54 (.dup) 1 55 := ⟨by decide +kernel, rfl⟩
theorem d_Ra_take_55 : dz b_Ra_take 55 (.getfield 24) 3 58 := ⟨by decide +kernel, rfl⟩
theorem d_Ra_take_58 : dz b_Ra_take 58 (.iconst 1) 1 59 := ⟨by decide +kernel, rfl⟩
theorem d_Ra_take_59 : dz b_Ra_take 59 (.iadd) 1 60 := ⟨by decide +kernel, rfl⟩
theorem d_Ra_take_60 : dz b_Ra_take 60 (.putfield 24) 3 63 := ⟨by decide +kernel, rfl⟩
theorem d_Ra_take_63 : dz b_Ra_take 63 (.aload_n 0) 1 64 := ⟨by decide +kernel, rfl⟩
theorem d_Ra_take_64 : dz b_Ra_take 64 (.getfield 24) 3 67 := ⟨by decide +kernel, rfl⟩
theorem d_Ra_take_67 : dz b_Ra_take 67 (.ireturn) 1 68 := ⟨by decide +kernel, rfl⟩
theorem d_Ra_owedTo_0 : dz b_Ra_owedTo 0 (.iload_n 2) 1 1 := ⟨by decide +kernel, rfl⟩
theorem d_Ra_owedTo_1 : dz b_Ra_owedTo 1 (.iconst 1) 1 2 := ⟨by decide +kernel, rfl⟩
theorem d_Ra_owedTo_2 : dz b_Ra_owedTo 2 (.iadd) 1 3 := ⟨by decide +kernel, rfl⟩
theorem d_Ra_owedTo_3 : dz b_Ra_owedTo 3 (.bipush 30) 2 5 := ⟨by decide +kernel, rfl⟩
theorem d_Ra_owedTo_5 : dz b_Ra_owedTo 5 (.idiv) 1 6 := ⟨by decide +kernel, rfl⟩
theorem d_Ra_owedTo_6 : dz b_Ra_owedTo 6 (.istore_n 3) 1 7 := ⟨by decide +kernel, rfl⟩
theorem d_Ra_owedTo_7 : dz b_Ra_owedTo 7 (.iload_n 3) 1 8 := ⟨by decide +kernel, rfl⟩
theorem d_Ra_owedTo_8 : dz b_Ra_owedTo 8 (.aload_n 0) 1 9 := ⟨by decide +kernel, rfl⟩
theorem d_Ra_owedTo_9 : dz b_Ra_owedTo 9 (.getfield 9) 3 12 := ⟨by decide +kernel, rfl⟩
theorem d_Ra_owedTo_12 : dz b_Ra_owedTo 12 (.aload_n 0) 1 13 := ⟨by decide +kernel, rfl⟩
theorem d_Ra_owedTo_13 : dz b_Ra_owedTo 13 (.getfield 28) 3 16 := ⟨by decide +kernel, rfl⟩
theorem d_Ra_owedTo_16 : dz b_Ra_owedTo 16 (.getfield 32) 3 19 := ⟨by decide +kernel, rfl⟩
theorem d_Ra_owedTo_19 : dz b_Ra_owedTo 19 (.iload_n 1) 1 20 := ⟨by decide +kernel, rfl⟩
theorem d_Ra_owedTo_20 : dz b_Ra_owedTo 20 (.iaload) 1 21 := ⟨by decide +kernel, rfl⟩
theorem d_Ra_owedTo_21 : dz b_Ra_owedTo 21 (.iaload) 1 22 := ⟨by decide +kernel, rfl⟩
theorem d_Ra_owedTo_22 : dz b_Ra_owedTo 22 (.imul) 1 23 := ⟨by decide +kernel, rfl⟩
theorem d_Ra_owedTo_23 : dz b_Ra_owedTo 23 (.istore 4) 2 25 := ⟨by decide +kernel, rfl⟩
theorem d_Ra_owedTo_25 : dz b_Ra_owedTo 25 (.iconst 0) 1 26 := ⟨by decide +kernel, rfl⟩
theorem d_Ra_owedTo_26 : dz b_Ra_owedTo 26 (.istore 5) 2 28 := ⟨by decide +kernel, rfl⟩
theorem d_Ra_owedTo_28 : dz b_Ra_owedTo 28 (.iload 5) 2 30 := ⟨by decide +kernel, rfl⟩
theorem d_Ra_owedTo_30 : dz b_Ra_owedTo 30 (.aload_n 0) 1 31 := ⟨by decide +kernel, rfl⟩
theorem d_Ra_owedTo_31 : dz b_Ra_owedTo 31 (.getfield 24) 3 34 := ⟨by decide +kernel, rfl⟩
theorem d_Ra_owedTo_34 : dj b_Ra_owedTo 34 (.if_icmp .ge) 37 77 := ⟨43, by decide +kernel, rfl, by decide⟩
theorem d_Ra_owedTo_37 : dz b_Ra_owedTo 37 (.aload_n 0) 1 38 := ⟨by decide +kernel, rfl⟩
theorem d_Ra_owedTo_38 : dz b_Ra_owedTo 38 (.getfield 15) 3 41 := ⟨by decide +kernel, rfl⟩
theorem d_Ra_owedTo_41 : dz b_Ra_owedTo 41 (.iload 5) 2 43 := ⟨by decide +kernel, rfl⟩
theorem d_Ra_owedTo_43 : dz b_Ra_owedTo 43 (.iaload) 1 44 := ⟨by decide +kernel, rfl⟩
theorem d_Ra_owedTo_44 : dz b_Ra_owedTo 44 (.iload_n 1) 1 45 := ⟨by decide +kernel, rfl⟩
theorem d_Ra_owedTo_45 : dj b_Ra_owedTo 45 (.if_icmp .ne) 48 71 := ⟨26, by decide +kernel, rfl, by decide⟩
theorem d_Ra_owedTo_48 : dz b_Ra_owedTo 48 (.aload_n 0) 1 49 := ⟨by decide +kernel, rfl⟩
theorem d_Ra_owedTo_49 : dz b_Ra_owedTo 49 (.getfield 18) 3 52 := ⟨by decide +kernel, rfl⟩
theorem d_Ra_owedTo_52 : dz b_Ra_owedTo 52 (.iload 5) 2 54 := ⟨by decide +kernel, rfl⟩
theorem d_Ra_owedTo_54 : dz b_Ra_owedTo 54 (.iaload) 1 55 := ⟨by decide +kernel, rfl⟩
theorem d_Ra_owedTo_55 : dz b_Ra_owedTo 55 (.iload_n 2) 1 56 := ⟨by decide +kernel, rfl⟩
theorem d_Ra_owedTo_56 : dj b_Ra_owedTo 56 (.if_icmp .gt) 59 71 := ⟨15, by decide +kernel, rfl, by decide⟩
theorem d_Ra_owedTo_59 : dz b_Ra_owedTo 59 (.iload 4) 2 61 := ⟨by decide +kernel, rfl⟩
theorem d_Ra_owedTo_61 : dz b_Ra_owedTo 61 (.aload_n 0) 1 62 := ⟨by decide +kernel, rfl⟩
theorem d_Ra_owedTo_62 : dz b_Ra_owedTo 62 (.getfield 21) 3 65 := ⟨by decide +kernel, rfl⟩
theorem d_Ra_owedTo_65 : dz b_Ra_owedTo 65 (.iload 5) 2 67 := ⟨by decide +kernel, rfl⟩
theorem d_Ra_owedTo_67 : dz b_Ra_owedTo 67 (.iaload) 1 68 := ⟨by decide +kernel, rfl⟩
theorem d_Ra_owedTo_68 : dz b_Ra_owedTo 68 (.isub) 1 69 := ⟨by decide +kernel, rfl⟩
theorem d_Ra_owedTo_69 : dz b_Ra_owedTo 69 (.istore 4) 2 71 := ⟨by decide +kernel, rfl⟩
theorem d_Ra_owedTo_71 : dz b_Ra_owedTo 71 (.iinc 5 1) 3 74 := ⟨by decide +kernel, rfl⟩
theorem d_Ra_owedTo_74 : dj b_Ra_owedTo 74 (.goto) 77 28 := ⟨(-46), by decide +kernel, rfl, by decide⟩
theorem d_Ra_owedTo_77 : dz b_Ra_owedTo 77 (.iload 4) 2 79 := ⟨by decide +kernel, rfl⟩
theorem d_Ra_owedTo_79 : dz b_Ra_owedTo 79 (.ireturn) 1 80 := ⟨by decide +kernel, rfl⟩
theorem d_Se_init_0 : dz b_Se_init 0 (.aload_n 0) 1 1 := ⟨by decide +kernel, rfl⟩
theorem d_Se_init_1 : dz b_Se_init 1 (.invokespecial 3) 3 4 := ⟨by decide +kernel, rfl⟩
theorem d_Se_init_4 : dz b_Se_init 4 (.aload_n 0) 1 5 := ⟨by decide +kernel, rfl⟩
theorem d_Se_init_5 : dz b_Se_init 5 (.bipush 12) 2 7 := ⟨by decide +kernel, rfl⟩
theorem d_Se_init_7 : dz b_Se_init 7 (.newarray .int) 2 9 := ⟨by decide +kernel, rfl⟩
theorem d_Se_init_9 : dz b_Se_init 9 (.putfield 9) 3 12 := ⟨by decide +kernel, rfl⟩
theorem d_Se_init_12 : dz b_Se_init 12 (.aload_n 0) 1 13 := ⟨by decide +kernel, rfl⟩
theorem d_Se_init_13 : dz b_Se_init 13 (.sipush 2048) 3 16 := ⟨by decide +kernel, rfl⟩
theorem d_Se_init_16 : dz b_Se_init 16 (.newarray .int) 2 18 := ⟨by decide +kernel, rfl⟩
theorem d_Se_init_18 : dz b_Se_init 18 (.putfield 15) 3 21 := ⟨by decide +kernel, rfl⟩
theorem d_Se_init_21 : dz b_Se_init 21 (.return_) 1 22 := ⟨by decide +kernel, rfl⟩
theorem d_Se_payments_0 : dz b_Se_payments 0 (.iconst 0) 1 1 := ⟨by decide +kernel, rfl⟩
theorem d_Se_payments_1 : dz b_Se_payments 1 (.istore_n 2) 1 2 := ⟨by decide +kernel, rfl⟩
theorem d_Se_payments_2 : dz b_Se_payments 2 (.iconst 0) 1 3 := ⟨by decide +kernel, rfl⟩
theorem d_Se_payments_3 : dz b_Se_payments 3 (.istore_n 3) 1 4 := ⟨by decide +kernel, rfl⟩
theorem d_Se_payments_4 : dz b_Se_payments 4 (.iload_n 3) 1 5 := ⟨by decide +kernel, rfl⟩
theorem d_Se_payments_5 : dz b_Se_payments 5 (.aload_n 1) 1 6 := ⟨by decide +kernel, rfl⟩
theorem d_Se_payments_6 : dz b_Se_payments 6 (.arraylength) 1 7 := ⟨by decide +kernel, rfl⟩
theorem d_Se_payments_7 : dj b_Se_payments 7 (.if_icmp .ge) 10 40 := ⟨33, by decide +kernel, rfl, by decide⟩
theorem d_Se_payments_10 : dz b_Se_payments 10 (.iload_n 2) 1 11 := ⟨by decide +kernel, rfl⟩
theorem d_Se_payments_11 : dz b_Se_payments 11 (.bipush 12) 2 13 := ⟨by decide +kernel, rfl⟩
theorem d_Se_payments_13 : dj b_Se_payments 13 (.if_icmp .ge) 16 40 := ⟨27, by decide +kernel, rfl, by decide⟩
theorem d_Se_payments_16 : dz b_Se_payments 16 (.aload_n 1) 1 17 := ⟨by decide +kernel, rfl⟩
theorem d_Se_payments_17 : dz b_Se_payments 17 (.iload_n 3) 1 18 := ⟨by decide +kernel, rfl⟩
theorem d_Se_payments_18 : dz b_Se_payments 18 (.iaload) 1 19 := ⟨by decide +kernel, rfl⟩
theorem d_Se_payments_19 : dj b_Se_payments 19 (.ifCond .eq) 22 34 := ⟨15, by decide +kernel, rfl, by decide⟩
theorem d_Se_payments_22 : dz b_Se_payments 22 (.aload_n 0) 1 23 := ⟨by decide +kernel, rfl⟩
theorem d_Se_payments_23 : dz b_Se_payments 23 (.getfield 9) 3 26 := ⟨by decide +kernel, rfl⟩
theorem d_Se_payments_26 : dz b_Se_payments 26 (.iload_n 2) 1 27 := ⟨by decide +kernel, rfl⟩
theorem d_Se_payments_27 : dz b_Se_payments 27 (.aload_n 1) 1 28 := ⟨by decide +kernel, rfl⟩
theorem d_Se_payments_28 : dz b_Se_payments 28 (.iload_n 3) 1 29 := ⟨by decide +kernel, rfl⟩
theorem d_Se_payments_29 : dz b_Se_payments 29 (.iaload) 1 30 := ⟨by decide +kernel, rfl⟩
theorem d_Se_payments_30 : dz b_Se_payments 30 (.iastore) 1 31 := ⟨by decide +kernel, rfl⟩
theorem d_Se_payments_31 : dz b_Se_payments 31 (.iinc 2 1) 3 34 := ⟨by decide +kernel, rfl⟩
theorem d_Se_payments_34 : dz b_Se_payments 34 (.iinc 3 1) 3 37 := ⟨by decide +kernel, rfl⟩
theorem d_Se_payments_37 : dj b_Se_payments 37 (.goto) 40 4 := ⟨(-33), by decide +kernel, rfl, by decide⟩
theorem d_Se_payments_40 : dz b_Se_payments 40 (.iload_n 2) 1 41 := ⟨by decide +kernel, rfl⟩
theorem d_Se_payments_41 : dj b_Se_payments 41 (.ifCond .ne) 44 46 := ⟨5, by decide +kernel, rfl, by decide⟩
theorem d_Se_payments_44 : dz b_Se_payments 44 (.iconst 0) 1 45 := ⟨by decide +kernel, rfl⟩
theorem d_Se_payments_45 : dz b_Se_payments 45 (.ireturn) 1 46 := ⟨by decide +kernel, rfl⟩
theorem d_Se_payments_46 : dz b_Se_payments 46 (.iload_n 2) 1 47 := ⟨by decide +kernel, rfl⟩
theorem d_Se_payments_47 : dz b_Se_payments 47 (.iconst 1) 1 48 := ⟨by decide +kernel, rfl⟩
theorem d_Se_payments_48 : dz b_Se_payments 48 (.isub) 1 49 := ⟨by decide +kernel, rfl⟩
theorem d_Se_payments_49 : dz b_Se_payments 49 (.aload_n 0) 1 50 := ⟨by decide +kernel, rfl⟩
theorem d_Se_payments_50 : dz b_Se_payments 50 (.iload_n 2) 1 51 := ⟨by decide +kernel, rfl⟩
theorem d_Se_payments_51 : dz b_Se_payments 51 (.iconst 1) 1 52 := ⟨by decide +kernel, rfl⟩
theorem d_Se_payments_52 : dz b_Se_payments 52 (.isub) 1 53 := ⟨by decide +kernel, rfl⟩
theorem d_Se_payments_53 : dz b_Se_payments 53 (.invokevirtual 18) 3 56 := ⟨by decide +kernel, rfl⟩
theorem d_Se_payments_56 : dz b_Se_payments 56 (.isub) 1 57 := ⟨by decide +kernel, rfl⟩
theorem d_Se_payments_57 : dz b_Se_payments 57 (.ireturn) 1 58 := ⟨by decide +kernel, rfl⟩
theorem d_Se_mostSetsAmong_0 : dz b_Se_mostSetsAmong 0 (.iconst 1) 1 1 := ⟨by decide +kernel, rfl⟩
theorem d_Se_mostSetsAmong_1 : dz b_Se_mostSetsAmong 1 (.iload_n 1) 1 2 := ⟨by decide +kernel, rfl⟩
theorem d_Se_mostSetsAmong_2 : dz b_Se_mostSetsAmong 2 (.ishl) 1 3 := ⟨by decide +kernel, rfl⟩
theorem d_Se_mostSetsAmong_3 : dz b_Se_mostSetsAmong 3 (.istore_n 2) 1 4 := ⟨by decide +kernel, rfl⟩
theorem d_Se_mostSetsAmong_4 : dz b_Se_mostSetsAmong 4 (.iconst 1) 1 5 := ⟨by decide +kernel, rfl⟩
theorem d_Se_mostSetsAmong_5 : dz b_Se_mostSetsAmong 5 (.istore_n 3) 1 6 := ⟨by decide +kernel, rfl⟩
theorem d_Se_mostSetsAmong_6 : dz b_Se_mostSetsAmong 6 (.iload_n 3) 1 7 := ⟨by decide +kernel, rfl⟩
theorem d_Se_mostSetsAmong_7 : dz b_Se_mostSetsAmong 7 (.iload_n 2) 1 8 := ⟨by decide +kernel, rfl⟩
theorem d_Se_mostSetsAmong_8 : dj b_Se_mostSetsAmong 8 (.if_icmp .ge) 11 29 := ⟨21, by decide +kernel, rfl, by decide⟩
theorem d_Se_mostSetsAmong_11 : dz b_Se_mostSetsAmong 11 (.aload_n 0) 1 12 := ⟨by decide +kernel, rfl⟩
theorem d_Se_mostSetsAmong_12 : dz b_Se_mostSetsAmong 12 (.getfield 15) 3 15 := ⟨by decide +kernel, rfl⟩
theorem d_Se_mostSetsAmong_15 : dz b_Se_mostSetsAmong 15 (.iload_n 3) 1 16 := ⟨by decide +kernel, rfl⟩
theorem d_Se_mostSetsAmong_16 : dz b_Se_mostSetsAmong 16 (.aload_n 0) 1 17 := ⟨by decide +kernel, rfl⟩
theorem d_Se_mostSetsAmong_17 : dz b_Se_mostSetsAmong 17 (.iload_n 3) 1 18 := ⟨by decide +kernel, rfl⟩
theorem d_Se_mostSetsAmong_18 : dz b_Se_mostSetsAmong 18 (.iload_n 1) 1 19 := ⟨by decide +kernel, rfl⟩
theorem d_Se_mostSetsAmong_19 : dz b_Se_mostSetsAmong 19 (.invokevirtual 22) 3 22 := ⟨by decide +kernel, rfl⟩
theorem d_Se_mostSetsAmong_22 : dz b_Se_mostSetsAmong 22 (.iastore) 1 23 := ⟨by decide +kernel, rfl⟩
theorem d_Se_mostSetsAmong_23 : dz b_Se_mostSetsAmong 23 (.iinc 3 1) 3 26 := ⟨by decide +kernel, rfl⟩
theorem d_Se_mostSetsAmong_26 : dj b_Se_mostSetsAmong 26 (.goto) 29 6 := ⟨(-20), by decide +kernel, rfl, by decide⟩
theorem d_Se_mostSetsAmong_29 : dz b_Se_mostSetsAmong 29 (.aload_n 0) 1 30 := ⟨by decide +kernel, rfl⟩
theorem d_Se_mostSetsAmong_30 : dz b_Se_mostSetsAmong 30 (.getfield 15) 3 33 := ⟨by decide +kernel, rfl⟩
theorem d_Se_mostSetsAmong_33 : dz b_Se_mostSetsAmong 33 (.iload_n 2) 1 34 := ⟨by decide +kernel, rfl⟩
theorem d_Se_mostSetsAmong_34 : dz b_Se_mostSetsAmong 34 (.iconst 1) 1 35 := ⟨by decide +kernel, rfl⟩
theorem d_Se_mostSetsAmong_35 : dz b_Se_mostSetsAmong 35 (.isub) 1 36 := ⟨by decide +kernel, rfl⟩
theorem d_Se_mostSetsAmong_36 : dz b_Se_mostSetsAmong 36 (.iaload) 1 37 := ⟨by decide +kernel, rfl⟩
theorem d_Se_mostSetsAmong_37 : dz b_Se_mostSetsAmong 37 (.ireturn) 1 38 := ⟨by decide +kernel, rfl⟩
theorem d_Se_mostSetsWithin_0 : dz b_Se_mostSetsWithin 0 (.iconst 0) 1 1 := ⟨by decide +kernel, rfl⟩
theorem d_Se_mostSetsWithin_1 : dz b_Se_mostSetsWithin 1 (.istore_n 3) 1 2 := ⟨by decide +kernel, rfl⟩
theorem d_Se_mostSetsWithin_2 : dz b_Se_mostSetsWithin 2 (.iconst 0) 1 3 := ⟨by decide +kernel, rfl⟩
theorem d_Se_mostSetsWithin_3 : dz b_Se_mostSetsWithin 3 (.istore 4) 2 5 := ⟨by decide +kernel, rfl⟩
theorem d_Se_mostSetsWithin_5 : dz b_Se_mostSetsWithin 5 (.iconst 0) 1 6 := ⟨by decide +kernel, rfl⟩
theorem d_Se_mostSetsWithin_6 : dz b_Se_mostSetsWithin 6 (.istore 5) 2 8 := ⟨by decide +kernel, rfl⟩
theorem d_Se_mostSetsWithin_8 : dz b_Se_mostSetsWithin 8 (.iload 5) 2 10 := ⟨by decide +kernel, rfl⟩
theorem d_Se_mostSetsWithin_10 : dz b_Se_mostSetsWithin 10 (.iload_n 2) 1 11 := ⟨by decide +kernel, rfl⟩
theorem d_Se_mostSetsWithin_11 : dj b_Se_mostSetsWithin 11 (.if_icmp .ge) 14 60 := ⟨49, by decide +kernel, rfl, by decide⟩
theorem d_Se_mostSetsWithin_14 : dz b_Se_mostSetsWithin 14 (.iload_n 1) 1 15 := ⟨by decide +kernel, rfl⟩
theorem d_Se_mostSetsWithin_15 : dz b_Se_mostSetsWithin 15 (.iconst 1) 1 16 := ⟨by decide +kernel, rfl⟩
theorem d_Se_mostSetsWithin_16 : dz b_Se_mostSetsWithin 16 (.iload 5) 2 18 := ⟨by decide +kernel, rfl⟩
theorem d_Se_mostSetsWithin_18 : dz b_Se_mostSetsWithin 18 (.ishl) 1 19 := ⟨by decide +kernel, rfl⟩
theorem d_Se_mostSetsWithin_19 : dz b_Se_mostSetsWithin 19 (.iconst (-1)) 1 20 := ⟨by decide +kernel, rfl⟩
theorem d_Se_mostSetsWithin_20 : dz b_Se_mostSetsWithin 20 (.ixor) 1 21 := ⟨by decide +kernel, rfl⟩
theorem d_Se_mostSetsWithin_21 : dz b_Se_mostSetsWithin 21 (.iand) 1 22 := ⟨by decide +kernel, rfl⟩
theorem d_Se_mostSetsWithin_22 : dz b_Se_mostSetsWithin 22 (.istore 6) 2 24 := ⟨by decide +kernel, rfl⟩
theorem d_Se_mostSetsWithin_24 : dz b_Se_mostSetsWithin 24 (.iload 6) 2 26 := ⟨by decide +kernel, rfl⟩
theorem d_Se_mostSetsWithin_26 : dz b_Se_mostSetsWithin 26 (.iload_n 1) 1 27 := ⟨by decide +kernel, rfl⟩
theorem d_Se_mostSetsWithin_27 : dj b_Se_mostSetsWithin 27 (.if_icmp .eq) 30 54 := ⟨27, by decide +kernel, rfl, by decide⟩
theorem d_Se_mostSetsWithin_30 : dz b_Se_mostSetsWithin 30 (.iload_n 3) 1 31 := ⟨by decide +kernel, rfl⟩
theorem d_Se_mostSetsWithin_31 : dz b_Se_mostSetsWithin 31 (.aload_n 0) 1 32 := ⟨by decide +kernel, rfl⟩
theorem d_Se_mostSetsWithin_32 : dz b_Se_mostSetsWithin 32 (.getfield 9) 3 35 := ⟨by decide +kernel, rfl⟩
theorem d_Se_mostSetsWithin_35 : dz b_Se_mostSetsWithin 35 (.iload 5) 2 37 := ⟨by decide +kernel, rfl⟩
theorem d_Se_mostSetsWithin_37 : dz b_Se_mostSetsWithin 37 (.iaload) 1 38 := ⟨by decide +kernel, rfl⟩
theorem d_Se_mostSetsWithin_38 : dz b_Se_mostSetsWithin 38 (.iadd) 1 39 := ⟨by decide +kernel, rfl⟩
theorem d_Se_mostSetsWithin_39 : dz b_Se_mostSetsWithin 39 (.istore_n 3) 1 40 := ⟨by decide +kernel, rfl⟩
theorem d_Se_mostSetsWithin_40 : dz b_Se_mostSetsWithin 40 (.iload 4) 2 42 := ⟨by decide +kernel, rfl⟩
theorem d_Se_mostSetsWithin_42 : dz b_Se_mostSetsWithin 42 (.aload_n 0) 1 43 := ⟨by decide +kernel, rfl⟩
theorem d_Se_mostSetsWithin_43 : dz b_Se_mostSetsWithin 43 (.getfield 15) 3 46 := ⟨by decide +kernel, rfl⟩
theorem d_Se_mostSetsWithin_46 : dz b_Se_mostSetsWithin 46 (.iload 6) 2 48 := ⟨by decide +kernel, rfl⟩
theorem d_Se_mostSetsWithin_48 : dz b_Se_mostSetsWithin 48 (.iaload) 1 49 := ⟨by decide +kernel, rfl⟩
theorem d_Se_mostSetsWithin_49 : dz b_Se_mostSetsWithin 49 (.invokestatic 26) 3 52 := ⟨by decide +kernel, rfl⟩
theorem d_Se_mostSetsWithin_52 : dz b_Se_mostSetsWithin 52 (.istore 4) 2 54 := ⟨by decide +kernel, rfl⟩
theorem d_Se_mostSetsWithin_54 : dz b_Se_mostSetsWithin 54 (.iinc 5 1) 3 57 := ⟨by decide +kernel, rfl⟩
theorem d_Se_mostSetsWithin_57 : dj b_Se_mostSetsWithin 57 (.goto) 60 8 := ⟨(-49), by decide +kernel, rfl, by decide⟩
theorem d_Se_mostSetsWithin_60 : dz b_Se_mostSetsWithin 60 (.iload_n 3) 1 61 := ⟨by decide +kernel, rfl⟩
theorem d_Se_mostSetsWithin_61 : dj b_Se_mostSetsWithin 61 (.ifCond .ne) 64 71 := ⟨10, by decide +kernel, rfl, by decide⟩
theorem d_Se_mostSetsWithin_64 : dz b_Se_mostSetsWithin 64 (.iload 4) 2 66 := ⟨by decide +kernel, rfl⟩
theorem d_Se_mostSetsWithin_66 : dz b_Se_mostSetsWithin 66 (.iconst 1) 1 67 := ⟨by decide +kernel, rfl⟩
theorem d_Se_mostSetsWithin_67 : dz b_Se_mostSetsWithin 67 (.iadd) 1 68 := ⟨by decide +kernel, rfl⟩
theorem d_Se_mostSetsWithin_68 : dj b_Se_mostSetsWithin 68 (.goto) 71 73 := ⟨5, by decide +kernel, rfl, by decide⟩
theorem d_Se_mostSetsWithin_71 : dz b_Se_mostSetsWithin 71 (.iload 4) 2 73 := ⟨by decide +kernel, rfl⟩
theorem d_Se_mostSetsWithin_73 : dz b_Se_mostSetsWithin 73 (.ireturn) 1 74 := ⟨by decide +kernel, rfl⟩
theorem d_Ta_init_0 : dz b_Ta_init 0 (.aload_n 0) 1 1 := ⟨by decide +kernel, rfl⟩
theorem d_Ta_init_1 : dz b_Ta_init 1 (.invokespecial 3) 3 4 := ⟨by decide +kernel, rfl⟩
theorem d_Ta_init_4 : dz b_Ta_init 4 (.aload_n 0) 1 5 := ⟨by decide +kernel, rfl⟩
theorem d_Ta_init_5 : dz b_Ta_init 5 (.sipush 300) 3 8 := ⟨by decide +kernel, rfl⟩
theorem d_Ta_init_8 : dz b_Ta_init 8 (.newarray .int) 2 10 := ⟨by decide +kernel, rfl⟩
theorem d_Ta_init_10 : dz b_Ta_init 10 (.putfield 9) 3 13 := ⟨by decide +kernel, rfl⟩
theorem d_Ta_init_13 : dz b_Ta_init 13 (.aload_n 0) 1 14 := ⟨by decide +kernel, rfl⟩
theorem d_Ta_init_14 : dz b_Ta_init 14 (.iconst 0) 1 15 := ⟨by decide +kernel, rfl⟩
theorem d_Ta_init_15 : dz b_Ta_init 15 (.putfield 15) 3 18 := ⟨by decide +kernel, rfl⟩
theorem d_Ta_init_18 : dz b_Ta_init 18 (.return_) 1 19 := ⟨by decide +kernel, rfl⟩
theorem d_Ta_hasRoomFor_0 : dz b_Ta_hasRoomFor 0 (.aload_n 0) 1 1 := ⟨by decide +kernel, rfl⟩
theorem d_Ta_hasRoomFor_1 : dz b_Ta_hasRoomFor 1 (.getfield 15) 3 4 := ⟨by decide +kernel, rfl⟩
theorem d_Ta_hasRoomFor_4 : dz b_Ta_hasRoomFor 4 (.iload_n 1) 1 5 := ⟨by decide +kernel, rfl⟩
theorem d_Ta_hasRoomFor_5 : dz b_Ta_hasRoomFor 5 (.iadd) 1 6 := ⟨by decide +kernel, rfl⟩
theorem d_Ta_hasRoomFor_6 : dz b_Ta_hasRoomFor 6 (.sipush 300) 3 9 := ⟨by decide +kernel, rfl⟩
theorem d_Ta_hasRoomFor_9 : dj b_Ta_hasRoomFor 9 (.if_icmp .gt) 12 16 := ⟨7, by decide +kernel, rfl, by decide⟩
theorem d_Ta_hasRoomFor_12 : dz b_Ta_hasRoomFor 12 (.iconst 1) 1 13 := ⟨by decide +kernel, rfl⟩
theorem d_Ta_hasRoomFor_13 : dj b_Ta_hasRoomFor 13 (.goto) 16 17 := ⟨4, by decide +kernel, rfl, by decide⟩
theorem d_Ta_hasRoomFor_16 : dz b_Ta_hasRoomFor 16 (.iconst 0) 1 17 := ⟨by decide +kernel, rfl⟩
theorem d_Ta_hasRoomFor_17 : dz b_Ta_hasRoomFor 17 (.ireturn) 1 18 := ⟨by decide +kernel, rfl⟩
theorem d_Ta_append_0 : dz b_Ta_append 0 (.bipush 24) 2 2 := ⟨by decide +kernel, rfl⟩
theorem d_Ta_append_2 : dz b_Ta_append 2 (.istore_n 2) 1 3 := ⟨by decide +kernel, rfl⟩
theorem d_Ta_append_3 : dz b_Ta_append 3 (.iload_n 2) 1 4 := ⟨by decide +kernel, rfl⟩
theorem d_Ta_append_4 : dj b_Ta_append 4 (.ifCond .lt) 7 49 := ⟨45, by decide +kernel, rfl, by decide⟩
theorem d_Ta_append_7 : dz b_Ta_append 7 (.aload_n 0) 1 8 := ⟨by decide +kernel, rfl⟩
theorem d_Ta_append_8 : dz b_Ta_append 8 (.getfield 15) 3 11 := ⟨by decide +kernel, rfl⟩
theorem d_Ta_append_11 : dz b_Ta_append 11 (.sipush 300) 3 14 := ⟨by decide +kernel, rfl⟩
theorem d_Ta_append_14 : dj b_Ta_append 14 (.if_icmp .ge) 17 49 := ⟨35, by decide +kernel, rfl, by decide⟩
theorem d_Ta_append_17 : dz b_Ta_append 17 (.aload_n 0) 1 18 := ⟨by decide +kernel, rfl⟩
theorem d_Ta_append_18 : dz b_Ta_append 18 (.getfield 9) 3 21 := ⟨by decide +kernel, rfl⟩
theorem d_Ta_append_21 : dz b_Ta_append 21 (.aload_n 0) 1 22 := ⟨by decide +kernel, rfl⟩
theorem d_Ta_append_22 : dz b_Ta_append 22 (.getfield 15) 3 25 := ⟨by decide +kernel, rfl⟩
theorem d_Ta_append_25 : dz b_Ta_append 25 (.iload_n 1) 1 26 := ⟨by decide +kernel, rfl⟩
theorem d_Ta_append_26 : dz b_Ta_append 26 (.iload_n 2) 1 27 := ⟨by decide +kernel, rfl⟩
theorem d_Ta_append_27 : dz b_Ta_append 27 (.iushr) 1 28 := ⟨by decide +kernel, rfl⟩
theorem d_Ta_append_28 : dz b_Ta_append 28 (.sipush 255) 3 31 := ⟨by decide +kernel, rfl⟩
theorem d_Ta_append_31 : dz b_Ta_append 31 (.iand) 1 32 := ⟨by decide +kernel, rfl⟩
theorem d_Ta_append_32 : dz b_Ta_append 32 (.iastore) 1 33 := ⟨by decide +kernel, rfl⟩
theorem d_Ta_append_33 : dz b_Ta_append 33 (.aload_n 0) 1 34 := ⟨by decide +kernel, rfl⟩
theorem d_Ta_append_34 : dz b_Ta_append 34 (.dup) 1 35 := ⟨by decide +kernel, rfl⟩
theorem d_Ta_append_35 : dz b_Ta_append 35 (.getfield 15) 3 38 := ⟨by decide +kernel, rfl⟩
theorem d_Ta_append_38 : dz b_Ta_append 38 (.iconst 1) 1 39 := ⟨by decide +kernel, rfl⟩
theorem d_Ta_append_39 : dz b_Ta_append 39 (.iadd) 1 40 := ⟨by decide +kernel, rfl⟩
theorem d_Ta_append_40 : dz b_Ta_append 40 (.putfield 15) 3 43 := ⟨by decide +kernel, rfl⟩
theorem d_Ta_append_43 : dz b_Ta_append 43 (.iinc 2 (-8)) 3 46 := ⟨by decide +kernel, rfl⟩
theorem d_Ta_append_46 : dj b_Ta_append 46 (.goto) 49 3 := ⟨(-43), by decide +kernel, rfl, by decide⟩
theorem d_Ta_append_49 : dz b_Ta_append 49 (.return_) 1 50 := ⟨by decide +kernel, rfl⟩
theorem d_Ta_cut_0 : dz b_Ta_cut 0 (.iload_n 1) 1 1 := ⟨by decide +kernel, rfl⟩
theorem d_Ta_cut_1 : dj b_Ta_cut 1 (.ifCond .lt) 4 12 := ⟨11, by decide +kernel, rfl, by decide⟩
theorem d_Ta_cut_4 : dz b_Ta_cut 4 (.iload_n 1) 1 5 := ⟨by decide +kernel, rfl⟩
theorem d_Ta_cut_5 : dz b_Ta_cut 5 (.aload_n 0) 1 6 := ⟨by decide +kernel, rfl⟩
theorem d_Ta_cut_6 : dz b_Ta_cut 6 (.getfield 15) 3 9 := ⟨by decide +kernel, rfl⟩
theorem d_Ta_cut_9 : dj b_Ta_cut 9 (.if_icmp .le) 12 14 := ⟨5, by decide +kernel, rfl, by decide⟩
theorem d_Ta_cut_12 : dz b_Ta_cut 12 (.iconst 0) 1 13 := ⟨by decide +kernel, rfl⟩
theorem d_Ta_cut_13 : dz b_Ta_cut 13 (.ireturn) 1 14 := ⟨by decide +kernel, rfl⟩
theorem d_Ta_cut_14 : dz b_Ta_cut 14 (.aload_n 0) 1 15 := ⟨by decide +kernel, rfl⟩
theorem d_Ta_cut_15 : dz b_Ta_cut 15 (.iload_n 1) 1 16 := ⟨by decide +kernel, rfl⟩
theorem d_Ta_cut_16 : dz b_Ta_cut 16 (.putfield 15) 3 19 := ⟨by decide +kernel, rfl⟩
theorem d_Ta_cut_19 : dz b_Ta_cut 19 (.iconst 1) 1 20 := ⟨by decide +kernel, rfl⟩
theorem d_Ta_cut_20 : dz b_Ta_cut 20 (.ireturn) 1 21 := ⟨by decide +kernel, rfl⟩
theorem d_Ta_at_0 : dz b_Ta_at 0 (.iload_n 1) 1 1 := ⟨by decide +kernel, rfl⟩
theorem d_Ta_at_1 : dz b_Ta_at 1 (.aload_n 0) 1 2 := ⟨by decide +kernel, rfl⟩
theorem d_Ta_at_2 : dz b_Ta_at 2 (.getfield 15) 3 5 := ⟨by decide +kernel, rfl⟩
theorem d_Ta_at_5 : dz b_Ta_at 5 (.invokestatic 19) 3 8 := ⟨by decide +kernel, rfl⟩
theorem d_Ta_at_8 : dj b_Ta_at 8 (.ifCond .eq) 11 20 := ⟨12, by decide +kernel, rfl, by decide⟩
theorem d_Ta_at_11 : dz b_Ta_at 11 (.aload_n 0) 1 12 := ⟨by decide +kernel, rfl⟩
theorem d_Ta_at_12 : dz b_Ta_at 12 (.getfield 9) 3 15 := ⟨by decide +kernel, rfl⟩
theorem d_Ta_at_15 : dz b_Ta_at 15 (.iload_n 1) 1 16 := ⟨by decide +kernel, rfl⟩
theorem d_Ta_at_16 : dz b_Ta_at 16 (.iaload) 1 17 := ⟨by decide +kernel, rfl⟩
theorem d_Ta_at_17 : dj b_Ta_at 17 (.goto) 20 21 := ⟨4, by decide +kernel, rfl, by decide⟩
theorem d_Ta_at_20 : dz b_Ta_at 20 (.iconst (-1)) 1 21 := ⟨by decide +kernel, rfl⟩
theorem d_Ta_at_21 : dz b_Ta_at 21 (.ireturn) 1 22 := ⟨by decide +kernel, rfl⟩
theorem d_To_init_0 : dz b_To_init 0 (.aload_n 0) 1 1 := ⟨by decide +kernel, rfl⟩
theorem d_To_init_1 : dz b_To_init 1 (.invokespecial 3) 3 4 := ⟨by decide +kernel, rfl⟩
theorem d_To_init_4 : dz b_To_init 4 (.aload_n 0) 1 5 := ⟨by decide +kernel, rfl⟩
theorem d_To_init_5 : dz b_To_init 5 (.iconst 0) 1 6 := ⟨by decide +kernel, rfl⟩
theorem d_To_init_6 : dz b_To_init 6 (.putfield 9) 3 9 := ⟨by decide +kernel, rfl⟩
theorem d_To_init_9 : dz b_To_init 9 (.aload_n 0) 1 10 := ⟨by decide +kernel, rfl⟩
theorem d_To_init_10 : dz b_To_init 10 (.iconst 0) 1 11 := ⟨by decide +kernel, rfl⟩
theorem d_To_init_11 : dz b_To_init 11 (.putfield 15) 3 14 := ⟨by decide +kernel, rfl⟩
theorem d_To_init_14 : dz b_To_init 14 (.aload_n 0) 1 15 := ⟨by decide +kernel, rfl⟩
theorem d_To_init_15 : dz b_To_init 15 (.iconst 0) 1 16 := ⟨by decide +kernel, rfl⟩
theorem d_To_init_16 : dz b_To_init 16 (.putfield 18) 3 19 := ⟨by decide +kernel, rfl⟩
theorem d_To_init_19 : dz b_To_init 19 (.aload_n 0) 1 20 := ⟨by decide +kernel, rfl⟩
theorem d_To_init_20 : dz b_To_init 20 (.lconst 0) 1 21 := ⟨by decide +kernel, rfl⟩
theorem d_To_init_21 : dz b_To_init 21 (.putfield 21) 3 24 := ⟨by decide +kernel, rfl⟩
theorem d_To_init_24 : dz b_To_init 24 (.aload_n 0) 1 25 := ⟨by decide +kernel, rfl⟩
theorem d_To_init_25 : dz b_To_init 25 (.aload_n 1) 1 26 := ⟨by decide +kernel, rfl⟩
theorem d_To_init_26 : dz b_To_init 26 (.putfield 25) 3 29 := ⟨by decide +kernel, rfl⟩
theorem d_To_init_29 : dz b_To_init 29 (.return_) 1 30 := ⟨by decide +kernel, rfl⟩
theorem d_To_restart_0 : dz b_To_restart 0 (.aload_n 0) 1 1 := ⟨by decide +kernel, rfl⟩
theorem d_To_restart_1 : dz b_To_restart 1 (.iconst 0) 1 2 := ⟨by decide +kernel, rfl⟩
theorem d_To_restart_2 : dz b_To_restart 2 (.putfield 9) 3 5 := ⟨by decide +kernel, rfl⟩
theorem d_To_restart_5 : dz b_To_restart 5 (.return_) 1 6 := ⟨by decide +kernel, rfl⟩
theorem d_To_advance_0 : dz b_To_advance 0 (.aload_n 0) 1 1 := ⟨by decide +kernel, rfl⟩
theorem d_To_advance_1 : dz b_To_advance 1 (.invokevirtual 29) 3 4 := ⟨by decide +kernel, rfl⟩
theorem d_To_advance_4 : dz b_To_advance 4 (.aload_n 0) 1 5 := ⟨by decide +kernel, rfl⟩
theorem d_To_advance_5 : dz b_To_advance 5 (.aload_n 0) 1 6 := ⟨by decide +kernel, rfl⟩
theorem d_To_advance_6 : dz b_To_advance 6 (.getfield 9) 3 9 := ⟨by decide +kernel, rfl⟩
theorem d_To_advance_9 : dz b_To_advance 9 (.putfield 18) 3 12 := ⟨by decide +kernel, rfl⟩
theorem d_To_advance_12 : dz b_To_advance 12 (.aload_n 0) 1 13 := ⟨by decide +kernel, rfl⟩
theorem d_To_advance_13 : dz b_To_advance 13 (.lconst 0) 1 14 := ⟨by decide +kernel, rfl⟩
theorem d_To_advance_14 : dz b_To_advance 14 (.putfield 21) 3 17 := ⟨by decide +kernel, rfl⟩
theorem d_To_advance_17 : dz b_To_advance 17 (.aload_n 0) 1 18 := ⟨by decide +kernel, rfl⟩
theorem d_To_advance_18 : dz b_To_advance 18 (.getfield 25) 3 21 := ⟨by decide +kernel, rfl⟩
theorem d_To_advance_21 : dz b_To_advance 21 (.aload_n 0) 1 22 := ⟨by decide +kernel, rfl⟩
theorem d_To_advance_22 : dz b_To_advance 22 (.getfield 9) 3 25 := ⟨by decide +kernel, rfl⟩
theorem d_To_advance_25 : dz b_To_advance 25 (.invokevirtual 32) 3 28 := ⟨by decide +kernel, rfl⟩
theorem d_To_advance_28 : dz b_To_advance 28 (.istore_n 1) 1 29 := ⟨by decide +kernel, rfl⟩
theorem d_To_advance_29 : dz b_To_advance 29 (.iload_n 1) 1 30 := ⟨by decide +kernel, rfl⟩
theorem d_To_advance_30 : dz b_To_advance 30 (.iconst (-1)) 1 31 := ⟨by decide +kernel, rfl⟩
theorem d_To_advance_31 : dj b_To_advance 31 (.if_icmp .ne) 34 42 := ⟨11, by decide +kernel, rfl, by decide⟩
end
section
theorem d_To_advance_34 : dz b_To_advance 34 (.aload_n 0) 1 35 := ⟨by decide +kernel, rfl⟩
theorem d_To_advance_35 : dz b_To_advance 35 (.iconst 0) 1 36 := ⟨by decide +kernel, rfl⟩
theorem d_To_advance_36 : dz b_To_advance 36 (.putfield 15) 3 39 := ⟨by decide +kernel, rfl⟩
theorem d_To_advance_39 : dj b_To_advance 39 (.goto) 42 75 := ⟨36, by decide +kernel, rfl, by decide⟩
theorem d_To_advance_42 : dz b_To_advance 42 (.iload_n 1) 1 43 := ⟨by decide +kernel, rfl⟩
theorem d_To_advance_43 : dz b_To_advance 43 (.invokestatic 38) 3 46 := ⟨by decide +kernel, rfl⟩
theorem d_To_advance_46 : dj b_To_advance 46 (.ifCond .eq) 49 56 := ⟨10, by decide +kernel, rfl, by decide⟩
theorem d_To_advance_49 : dz b_To_advance 49 (.aload_n 0) 1 50 := ⟨by decide +kernel, rfl⟩
theorem d_To_advance_50 : dz b_To_advance 50 (.invokevirtual 42) 3 53 := ⟨by decide +kernel, rfl⟩
theorem d_To_advance_53 : dj b_To_advance 53 (.goto) 56 75 := ⟨22, by decide +kernel, rfl, by decide⟩
theorem d_To_advance_56 : dz b_To_advance 56 (.iload_n 1) 1 57 := ⟨by decide +kernel, rfl⟩
theorem d_To_advance_57 : dz b_To_advance 57 (.invokestatic 45) 3 60 := ⟨by decide +kernel, rfl⟩
theorem d_To_advance_60 : dj b_To_advance 60 (.ifCond .eq) 63 70 := ⟨10, by decide +kernel, rfl, by decide⟩
theorem d_To_advance_63 : dz b_To_advance 63 (.aload_n 0) 1 64 := ⟨by decide +kernel, rfl⟩
theorem d_To_advance_64 : dz b_To_advance 64 (.invokevirtual 48) 3 67 := ⟨by decide +kernel, rfl⟩
theorem d_To_advance_67 : dj b_To_advance 67 (.goto) 70 75 := ⟨8, by decide +kernel, rfl, by decide⟩
theorem d_To_advance_70 : dz b_To_advance 70 (.aload_n 0) 1 71 := ⟨by decide +kernel, rfl⟩
theorem d_To_advance_71 : dz b_To_advance 71 (.iload_n 1) 1 72 := ⟨by decide +kernel, rfl⟩
theorem d_To_advance_72 : dz b_To_advance 72 (.invokevirtual 51) 3 75 := ⟨by decide +kernel, rfl⟩
theorem d_To_advance_75 : dz b_To_advance 75 (.return_) 1 76 := ⟨by decide +kernel, rfl⟩
theorem d_To_skipBlanks_0 : dz b_To_skipBlanks 0 (.aload_n 0) 1 1 := ⟨by decide +kernel, rfl⟩
theorem d_To_skipBlanks_1 : dz b_To_skipBlanks 1 (.getfield 9) 3 4 := ⟨by decide +kernel, rfl⟩
theorem d_To_skipBlanks_4 : dz b_To_skipBlanks 4 (.aload_n 0) 1 5 := ⟨by decide +kernel, rfl⟩
theorem d_To_skipBlanks_5 : dz b_To_skipBlanks 5 (.getfield 25) 3 8 := ⟨by decide +kernel, rfl⟩
theorem d_To_skipBlanks_8 : dz b_To_skipBlanks 8 (.getfield 55) 3 11 := ⟨by decide +kernel, rfl⟩
theorem d_To_skipBlanks_11 : dj b_To_skipBlanks 11 (.if_icmp .ge) 14 59 := ⟨48, by decide +kernel, rfl, by decide⟩
theorem d_To_skipBlanks_14 : dz b_To_skipBlanks 14 (.aload_n 0) 1 15 := ⟨by decide +kernel, rfl⟩
theorem d_To_skipBlanks_15 : dz b_To_skipBlanks 15 (.getfield 25) 3 18 := ⟨by decide +kernel, rfl⟩
theorem d_To_skipBlanks_18 : dz b_To_skipBlanks 18 (.aload_n 0) 1 19 := ⟨by decide +kernel, rfl⟩
theorem d_To_skipBlanks_19 : dz b_To_skipBlanks 19 (.getfield 9) 3 22 := ⟨by decide +kernel, rfl⟩
theorem d_To_skipBlanks_22 : dz b_To_skipBlanks 22 (.invokevirtual 32) 3 25 := ⟨by decide +kernel, rfl⟩
theorem d_To_skipBlanks_25 : dz b_To_skipBlanks 25 (.bipush 32) 2 27 := ⟨by decide +kernel, rfl⟩
theorem d_To_skipBlanks_27 : dj b_To_skipBlanks 27 (.if_icmp .eq) 30 46 := ⟨19, by decide +kernel, rfl, by decide⟩
theorem d_To_skipBlanks_30 : dz b_To_skipBlanks 30 (.aload_n 0) 1 31 := ⟨by decide +kernel, rfl⟩
theorem d_To_skipBlanks_31 : dz b_To_skipBlanks 31 (.getfield 25) 3 34 := ⟨by decide +kernel, rfl⟩
theorem d_To_skipBlanks_34 : dz b_To_skipBlanks 34 (.aload_n 0) 1 35 := ⟨by decide +kernel, rfl⟩
theorem d_To_skipBlanks_35 : dz b_To_skipBlanks 35 (.getfield 9) 3 38 := ⟨by decide +kernel, rfl⟩
theorem d_To_skipBlanks_38 : dz b_To_skipBlanks 38 (.invokevirtual 32) 3 41 := ⟨by decide +kernel, rfl⟩
theorem d_To_skipBlanks_41 : dz b_To_skipBlanks 41 (.bipush 10) 2 43 := ⟨by decide +kernel, rfl⟩
theorem d_To_skipBlanks_43 : dj b_To_skipBlanks 43 (.if_icmp .ne) 46 59 := ⟨16, by decide +kernel, rfl, by decide⟩
theorem d_To_skipBlanks_46 : dz b_To_skipBlanks 46 (.aload_n 0) 1 47 := ⟨by decide +kernel, rfl⟩
theorem d_To_skipBlanks_47 : dz b_To_skipBlanks 47 (.dup) 1 48 := ⟨by decide +kernel, rfl⟩
theorem d_To_skipBlanks_48 : dz b_To_skipBlanks 48 (.getfield 9) 3 51 := ⟨by decide +kernel, rfl⟩
theorem d_To_skipBlanks_51 : dz b_To_skipBlanks 51 (.iconst 1) 1 52 := ⟨by decide +kernel, rfl⟩
theorem d_To_skipBlanks_52 : dz b_To_skipBlanks 52 (.iadd) 1 53 := ⟨by decide +kernel, rfl⟩
theorem d_To_skipBlanks_53 : dz b_To_skipBlanks 53 (.putfield 9) 3 56 := ⟨by decide +kernel, rfl⟩
theorem d_To_skipBlanks_56 : dj b_To_skipBlanks 56 (.goto) 59 0 := ⟨(-56), by decide +kernel, rfl, by decide⟩
theorem d_To_skipBlanks_59 : dz b_To_skipBlanks 59 (.return_) 1 60 := ⟨by decide +kernel, rfl⟩
theorem d_To_readWord_0 : dz b_To_readWord 0 (.aload_n 0) 1 1 := ⟨by decide +kernel, rfl⟩
theorem d_To_readWord_1 : dz b_To_readWord 1 (.getfield 9) 3 4 := ⟨by decide +kernel, rfl⟩
theorem d_To_readWord_4 : dz b_To_readWord 4 (.aload_n 0) 1 5 := ⟨by decide +kernel, rfl⟩
theorem d_To_readWord_5 : dz b_To_readWord 5 (.getfield 25) 3 8 := ⟨by decide +kernel, rfl⟩
theorem d_To_readWord_8 : dz b_To_readWord 8 (.getfield 55) 3 11 := ⟨by decide +kernel, rfl⟩
theorem d_To_readWord_11 : dj b_To_readWord 11 (.if_icmp .ge) 14 68 := ⟨57, by decide +kernel, rfl, by decide⟩
theorem d_To_readWord_14 : dz b_To_readWord 14 (.aload_n 0) 1 15 := ⟨by decide +kernel, rfl⟩
theorem d_To_readWord_15 : dz b_To_readWord 15 (.getfield 25) 3 18 := ⟨by decide +kernel, rfl⟩
theorem d_To_readWord_18 : dz b_To_readWord 18 (.aload_n 0) 1 19 := ⟨by decide +kernel, rfl⟩
theorem d_To_readWord_19 : dz b_To_readWord 19 (.getfield 9) 3 22 := ⟨by decide +kernel, rfl⟩
theorem d_To_readWord_22 : dz b_To_readWord 22 (.invokevirtual 32) 3 25 := ⟨by decide +kernel, rfl⟩
theorem d_To_readWord_25 : dz b_To_readWord 25 (.invokestatic 38) 3 28 := ⟨by decide +kernel, rfl⟩
theorem d_To_readWord_28 : dj b_To_readWord 28 (.ifCond .eq) 31 68 := ⟨40, by decide +kernel, rfl, by decide⟩
theorem d_To_readWord_31 : dz b_To_readWord 31 (.aload_n 0) 1 32 := ⟨by decide +kernel, rfl⟩
theorem d_To_readWord_32 : dz b_To_readWord 32 (.aload_n 0) 1 33 := ⟨by decide +kernel, rfl⟩
theorem d_To_readWord_33 : dz b_To_readWord 33 (.getfield 21) 3 36 := ⟨by decide +kernel, rfl⟩
theorem d_To_readWord_36 : dz b_To_readWord 36 (.bipush 8) 2 38 := ⟨by decide +kernel, rfl⟩
theorem d_To_readWord_38 : dz b_To_readWord 38 (.lshl) 1 39 := ⟨by decide +kernel, rfl⟩
theorem d_To_readWord_39 : dz b_To_readWord 39 (.aload_n 0) 1 40 := ⟨by decide +kernel, rfl⟩
theorem d_To_readWord_40 : dz b_To_readWord 40 (.getfield 25) 3 43 := ⟨by decide +kernel, rfl⟩
theorem d_To_readWord_43 : dz b_To_readWord 43 (.aload_n 0) 1 44 := ⟨by decide +kernel, rfl⟩
theorem d_To_readWord_44 : dz b_To_readWord 44 (.getfield 9) 3 47 := ⟨by decide +kernel, rfl⟩
theorem d_To_readWord_47 : dz b_To_readWord 47 (.invokevirtual 32) 3 50 := ⟨by decide +kernel, rfl⟩
theorem d_To_readWord_50 : dz b_To_readWord 50 (.i2l) 1 51 := ⟨by decide +kernel, rfl⟩
theorem d_To_readWord_51 : dz b_To_readWord 51 (.lor) 1 52 := ⟨by decide +kernel, rfl⟩
theorem d_To_readWord_52 : dz b_To_readWord 52 (.putfield 21) 3 55 := ⟨by decide +kernel, rfl⟩
theorem d_To_readWord_55 : dz b_To_readWord 55 (.aload_n 0) 1 56 := ⟨by decide +kernel, rfl⟩
theorem d_To_readWord_56 : dz b_To_readWord 56 (.dup) 1 57 := ⟨by decide +kernel, rfl⟩
theorem d_To_readWord_57 : dz b_To_readWord 57 (.getfield 9) 3 60 := ⟨by decide +kernel, rfl⟩
theorem d_To_readWord_60 : dz b_To_readWord 60 (.iconst 1) 1 61 := ⟨by decide +kernel, rfl⟩
theorem d_To_readWord_61 : dz b_To_readWord 61 (.iadd) 1 62 := ⟨by decide +kernel, rfl⟩
theorem d_To_readWord_62 : dz b_To_readWord 62 (.putfield 9) 3 65 := ⟨by decide +kernel, rfl⟩
theorem d_To_readWord_65 : dj b_To_readWord 65 (.goto) 68 0 := ⟨(-65), by decide +kernel, rfl, by decide⟩
theorem d_To_readWord_68 : dz b_To_readWord 68 (.aload_n 0) 1 69 := ⟨by decide +kernel, rfl⟩
theorem d_To_readWord_69 : dz b_To_readWord 69 (.aload_n 0) 1 70 := ⟨by decide +kernel, rfl⟩
theorem d_To_readWord_70 : dz b_To_readWord 70 (.getfield 9) 3 73 := ⟨by decide +kernel, rfl⟩
theorem d_To_readWord_73 : dz b_To_readWord 73 (.aload_n 0) 1 74 := ⟨by decide +kernel, rfl⟩
theorem d_To_readWord_74 : dz b_To_readWord 74 (.getfield 18) 3 77 := ⟨by decide +kernel, rfl⟩
theorem d_To_readWord_77 : dz b_To_readWord 77 (.isub) 1 78 := ⟨by decide +kernel, rfl⟩
theorem d_To_readWord_78 : dz b_To_readWord 78 (.bipush 8) 2 80 := ⟨by decide +kernel, rfl⟩
theorem d_To_readWord_80 : dj b_To_readWord 80 (.if_icmp .gt) 83 87 := ⟨7, by decide +kernel, rfl, by decide⟩
theorem d_To_readWord_83 : dz b_To_readWord 83 (.iconst 2) 1 84 := ⟨by decide +kernel, rfl⟩
theorem d_To_readWord_84 : dj b_To_readWord 84 (.goto) 87 88 := ⟨4, by decide +kernel, rfl, by decide⟩
theorem d_To_readWord_87 : dz b_To_readWord 87 (.iconst 1) 1 88 := ⟨by decide +kernel, rfl⟩
theorem d_To_readWord_88 : dz b_To_readWord 88 (.putfield 15) 3 91 := ⟨by decide +kernel, rfl⟩
theorem d_To_readWord_91 : dz b_To_readWord 91 (.return_) 1 92 := ⟨by decide +kernel, rfl⟩
theorem d_To_readNumber_0 : dz b_To_readNumber 0 (.aload_n 0) 1 1 := ⟨by decide +kernel, rfl⟩
theorem d_To_readNumber_1 : dz b_To_readNumber 1 (.getfield 9) 3 4 := ⟨by decide +kernel, rfl⟩
theorem d_To_readNumber_4 : dz b_To_readNumber 4 (.aload_n 0) 1 5 := ⟨by decide +kernel, rfl⟩
theorem d_To_readNumber_5 : dz b_To_readNumber 5 (.getfield 25) 3 8 := ⟨by decide +kernel, rfl⟩
theorem d_To_readNumber_8 : dz b_To_readNumber 8 (.getfield 55) 3 11 := ⟨by decide +kernel, rfl⟩
theorem d_To_readNumber_11 : dj b_To_readNumber 11 (.if_icmp .ge) 14 72 := ⟨61, by decide +kernel, rfl, by decide⟩
theorem d_To_readNumber_14 : dz b_To_readNumber 14 (.aload_n 0) 1 15 := ⟨by decide +kernel, rfl⟩
theorem d_To_readNumber_15 : dz b_To_readNumber 15 (.getfield 25) 3 18 := ⟨by decide +kernel, rfl⟩
theorem d_To_readNumber_18 : dz b_To_readNumber 18 (.aload_n 0) 1 19 := ⟨by decide +kernel, rfl⟩
theorem d_To_readNumber_19 : dz b_To_readNumber 19 (.getfield 9) 3 22 := ⟨by decide +kernel, rfl⟩
theorem d_To_readNumber_22 : dz b_To_readNumber 22 (.invokevirtual 32) 3 25 := ⟨by decide +kernel, rfl⟩
theorem d_To_readNumber_25 : dz b_To_readNumber 25 (.invokestatic 45) 3 28 := ⟨by decide +kernel, rfl⟩
theorem d_To_readNumber_28 : dj b_To_readNumber 28 (.ifCond .eq) 31 72 := ⟨44, by decide +kernel, rfl, by decide⟩
theorem d_To_readNumber_31 : dz b_To_readNumber 31 (.aload_n 0) 1 32 := ⟨by decide +kernel, rfl⟩
theorem d_To_readNumber_32 : dz b_To_readNumber 32 (.aload_n 0) 1 33 := ⟨by decide +kernel, rfl⟩
theorem d_To_readNumber_33 : dz b_To_readNumber 33 (.getfield 21) 3 36 := ⟨by decide +kernel, rfl⟩
theorem d_To_readNumber_36 : dz b_To_readNumber 36 (.ldc2_w 58) 3 39 := ⟨by decide +kernel, rfl⟩
theorem d_To_readNumber_39 : dz b_To_readNumber 39 (.lmul) 1 40 := ⟨by decide +kernel, rfl⟩
theorem d_To_readNumber_40 : dz b_To_readNumber 40 (.aload_n 0) 1 41 := ⟨by decide +kernel, rfl⟩
theorem d_To_readNumber_41 : dz b_To_readNumber 41 (.getfield 25) 3 44 := ⟨by decide +kernel, rfl⟩
theorem d_To_readNumber_44 : dz b_To_readNumber 44 (.aload_n 0) 1 45 := ⟨by decide +kernel, rfl⟩
theorem d_To_readNumber_45 : dz b_To_readNumber 45 (.getfield 9) 3 48 := ⟨by decide +kernel, rfl⟩
theorem d_To_readNumber_48 : dz b_To_readNumber 48 (.invokevirtual 32) 3 51 := ⟨by decide +kernel, rfl⟩
theorem d_To_readNumber_51 : dz b_To_readNumber 51 (.bipush 48) 2 53 := ⟨by decide +kernel, rfl⟩
theorem d_To_readNumber_53 : dz b_To_readNumber 53 (.isub) 1 54 := ⟨by decide +kernel, rfl⟩
theorem d_To_readNumber_54 : dz b_To_readNumber 54 (.i2l) 1 55 := ⟨by decide +kernel, rfl⟩
theorem d_To_readNumber_55 : dz b_To_readNumber 55 (.ladd) 1 56 := ⟨by decide +kernel, rfl⟩
theorem d_To_readNumber_56 : dz b_To_readNumber 56 (.putfield 21) 3 59 := ⟨by decide +kernel, rfl⟩
theorem d_To_readNumber_59 : dz b_To_readNumber 59 (.aload_n 0) 1 60 := ⟨by decide +kernel, rfl⟩
theorem d_To_readNumber_60 : dz b_To_readNumber 60 (.dup) 1 61 := ⟨by decide +kernel, rfl⟩
theorem d_To_readNumber_61 : dz b_To_readNumber 61 (.getfield 9) 3 64 := ⟨by decide +kernel, rfl⟩
theorem d_To_readNumber_64 : dz b_To_readNumber 64 (.iconst 1) 1 65 := ⟨by decide +kernel, rfl⟩
theorem d_To_readNumber_65 : dz b_To_readNumber 65 (.iadd) 1 66 := ⟨by decide +kernel, rfl⟩
theorem d_To_readNumber_66 : dz b_To_readNumber 66 (.putfield 9) 3 69 := ⟨by decide +kernel, rfl⟩
theorem d_To_readNumber_69 : dj b_To_readNumber 69 (.goto) 72 0 := ⟨(-69), by decide +kernel, rfl, by decide⟩
theorem d_To_readNumber_72 : dz b_To_readNumber 72 (.aload_n 0) 1 73 := ⟨by decide +kernel, rfl⟩
theorem d_To_readNumber_73 : dz b_To_readNumber 73 (.getfield 9) 3 76 := ⟨by decide +kernel, rfl⟩
theorem d_To_readNumber_76 : dz b_To_readNumber 76 (.aload_n 0) 1 77 := ⟨by decide +kernel, rfl⟩
theorem d_To_readNumber_77 : dz b_To_readNumber 77 (.getfield 18) 3 80 := ⟨by decide +kernel, rfl⟩
theorem d_To_readNumber_80 : dz b_To_readNumber 80 (.isub) 1 81 := ⟨by decide +kernel, rfl⟩
theorem d_To_readNumber_81 : dz b_To_readNumber 81 (.iconst 4) 1 82 := ⟨by decide +kernel, rfl⟩
theorem d_To_readNumber_82 : dj b_To_readNumber 82 (.if_icmp .gt) 85 106 := ⟨24, by decide +kernel, rfl, by decide⟩
theorem d_To_readNumber_85 : dz b_To_readNumber 85 (.aload_n 0) 1 86 := ⟨by decide +kernel, rfl⟩
theorem d_To_readNumber_86 : dz b_To_readNumber 86 (.getfield 25) 3 89 := ⟨by decide +kernel, rfl⟩
theorem d_To_readNumber_89 : dz b_To_readNumber 89 (.aload_n 0) 1 90 := ⟨by decide +kernel, rfl⟩
theorem d_To_readNumber_90 : dz b_To_readNumber 90 (.getfield 9) 3 93 := ⟨by decide +kernel, rfl⟩
theorem d_To_readNumber_93 : dz b_To_readNumber 93 (.invokevirtual 32) 3 96 := ⟨by decide +kernel, rfl⟩
theorem d_To_readNumber_96 : dz b_To_readNumber 96 (.invokestatic 38) 3 99 := ⟨by decide +kernel, rfl⟩
theorem d_To_readNumber_99 : dj b_To_readNumber 99 (.ifCond .ne) 102 106 := ⟨7, by decide +kernel, rfl, by decide⟩
theorem d_To_readNumber_102 : dz b_To_readNumber 102 (.iconst 1) 1 103 := ⟨by decide +kernel, rfl⟩
theorem d_To_readNumber_103 : dj b_To_readNumber 103 (.goto) 106 107 := ⟨4, by decide +kernel, rfl, by decide⟩
theorem d_To_readNumber_106 : dz b_To_readNumber 106 (.iconst 0) 1 107 := ⟨by decide +kernel, rfl⟩
theorem d_To_readNumber_107 : dz b_To_readNumber 107 (.istore_n 1) 1 108 := ⟨by decide +kernel, rfl⟩
theorem d_To_readNumber_108 : dz b_To_readNumber 108 (.aload_n 0) 1 109 := ⟨by decide +kernel, rfl⟩
theorem d_To_readNumber_109 : dz b_To_readNumber 109 (.iload_n 1) 1 110 := ⟨by decide +kernel, rfl⟩
theorem d_To_readNumber_110 : dj b_To_readNumber 110 (.ifCond .eq) 113 117 := ⟨7, by decide +kernel, rfl, by decide⟩
theorem d_To_readNumber_113 : dz b_To_readNumber 113 (.iconst 3) 1 114 := ⟨by decide +kernel, rfl⟩
theorem d_To_readNumber_114 : dj b_To_readNumber 114 (.goto) 117 118 := ⟨4, by decide +kernel, rfl, by decide⟩
theorem d_To_readNumber_117 : dz b_To_readNumber 117 (.iconst 1) 1 118 := ⟨by decide +kernel, rfl⟩
theorem d_To_readNumber_118 : dz b_To_readNumber 118 (.putfield 15) 3 121 := ⟨by decide +kernel, rfl⟩
theorem d_To_readNumber_121 : dz b_To_readNumber 121 (.return_) 1 122 := ⟨by decide +kernel, rfl⟩
theorem d_To_readSign_0 : dz b_To_readSign 0 (.aload_n 0) 1 1 := ⟨by decide +kernel, rfl⟩
theorem d_To_readSign_1 : dz b_To_readSign 1 (.iload_n 1) 1 2 := ⟨by decide +kernel, rfl⟩
theorem d_To_readSign_2 : dz b_To_readSign 2 (.i2l) 1 3 := ⟨by decide +kernel, rfl⟩
theorem d_To_readSign_3 : dz b_To_readSign 3 (.putfield 21) 3 6 := ⟨by decide +kernel, rfl⟩
theorem d_To_readSign_6 : dz b_To_readSign 6 (.aload_n 0) 1 7 := ⟨by decide +kernel, rfl⟩
theorem d_To_readSign_7 : dz b_To_readSign 7 (.dup) 1 8 := ⟨by decide +kernel, rfl⟩
theorem d_To_readSign_8 : dz b_To_readSign 8 (.getfield 9) 3 11 := ⟨by decide +kernel, rfl⟩
theorem d_To_readSign_11 : dz b_To_readSign 11 (.iconst 1) 1 12 := ⟨by decide +kernel, rfl⟩
theorem d_To_readSign_12 : dz b_To_readSign 12 (.iadd) 1 13 := ⟨by decide +kernel, rfl⟩
theorem d_To_readSign_13 : dz b_To_readSign 13 (.putfield 9) 3 16 := ⟨by decide +kernel, rfl⟩
theorem d_To_readSign_16 : dz b_To_readSign 16 (.aload_n 0) 1 17 := ⟨by decide +kernel, rfl⟩
theorem d_To_readSign_17 : dz b_To_readSign 17 (.iload_n 1) 1 18 := ⟨by decide +kernel, rfl⟩
theorem d_To_readSign_18 : dz b_To_readSign 18 (.bipush 58) 2 20 := ⟨by decide +kernel, rfl⟩
theorem d_To_readSign_20 : dj b_To_readSign 20 (.if_icmp .eq) 23 35 := ⟨15, by decide +kernel, rfl, by decide⟩
theorem d_To_readSign_23 : dz b_To_readSign 23 (.iload_n 1) 1 24 := ⟨by decide +kernel, rfl⟩
theorem d_To_readSign_24 : dz b_To_readSign 24 (.bipush 59) 2 26 := ⟨by decide +kernel, rfl⟩
theorem d_To_readSign_26 : dj b_To_readSign 26 (.if_icmp .eq) 29 35 := ⟨9, by decide +kernel, rfl, by decide⟩
theorem d_To_readSign_29 : dz b_To_readSign 29 (.iload_n 1) 1 30 := ⟨by decide +kernel, rfl⟩
theorem d_To_readSign_30 : dz b_To_readSign 30 (.bipush 63) 2 32 := ⟨by decide +kernel, rfl⟩
theorem d_To_readSign_32 : dj b_To_readSign 32 (.if_icmp .ne) 35 39 := ⟨7, by decide +kernel, rfl, by decide⟩
theorem d_To_readSign_35 : dz b_To_readSign 35 (.iconst 4) 1 36 := ⟨by decide +kernel, rfl⟩
theorem d_To_readSign_36 : dj b_To_readSign 36 (.goto) 39 40 := ⟨4, by decide +kernel, rfl, by decide⟩
theorem d_To_readSign_39 : dz b_To_readSign 39 (.iconst 1) 1 40 := ⟨by decide +kernel, rfl⟩
theorem d_To_readSign_40 : dz b_To_readSign 40 (.putfield 15) 3 43 := ⟨by decide +kernel, rfl⟩
theorem d_To_readSign_43 : dz b_To_readSign 43 (.return_) 1 44 := ⟨by decide +kernel, rfl⟩
theorem d_To_isSign_0 : dz b_To_isSign 0 (.aload_n 0) 1 1 := ⟨by decide +kernel, rfl⟩
theorem d_To_isSign_1 : dz b_To_isSign 1 (.getfield 15) 3 4 := ⟨by decide +kernel, rfl⟩
theorem d_To_isSign_4 : dz b_To_isSign 4 (.iconst 4) 1 5 := ⟨by decide +kernel, rfl⟩
theorem d_To_isSign_5 : dj b_To_isSign 5 (.if_icmp .ne) 8 22 := ⟨17, by decide +kernel, rfl, by decide⟩
theorem d_To_isSign_8 : dz b_To_isSign 8 (.aload_n 0) 1 9 := ⟨by decide +kernel, rfl⟩
theorem d_To_isSign_9 : dz b_To_isSign 9 (.getfield 21) 3 12 := ⟨by decide +kernel, rfl⟩
theorem d_To_isSign_12 : dz b_To_isSign 12 (.iload_n 1) 1 13 := ⟨by decide +kernel, rfl⟩
theorem d_To_isSign_13 : dz b_To_isSign 13 (.i2l) 1 14 := ⟨by decide +kernel, rfl⟩
theorem d_To_isSign_14 : dz b_To_isSign 14 (.lcmp) 1 15 := ⟨by decide +kernel, rfl⟩
theorem d_To_isSign_15 : dj b_To_isSign 15 (.ifCond .ne) 18 22 := ⟨7, by decide +kernel, rfl, by decide⟩
theorem d_To_isSign_18 : dz b_To_isSign 18 (.iconst 1) 1 19 := ⟨by decide +kernel, rfl⟩
theorem d_To_isSign_19 : dj b_To_isSign 19 (.goto) 22 23 := ⟨4, by decide +kernel, rfl, by decide⟩
theorem d_To_isSign_22 : dz b_To_isSign 22 (.iconst 0) 1 23 := ⟨by decide +kernel, rfl⟩
theorem d_To_isSign_23 : dz b_To_isSign 23 (.ireturn) 1 24 := ⟨by decide +kernel, rfl⟩
theorem d_To_isWord_0 : dz b_To_isWord 0 (.aload_n 0) 1 1 := ⟨by decide +kernel, rfl⟩
theorem d_To_isWord_1 : dz b_To_isWord 1 (.getfield 15) 3 4 := ⟨by decide +kernel, rfl⟩
theorem d_To_isWord_4 : dz b_To_isWord 4 (.iconst 2) 1 5 := ⟨by decide +kernel, rfl⟩
theorem d_To_isWord_5 : dj b_To_isWord 5 (.if_icmp .ne) 8 21 := ⟨16, by decide +kernel, rfl, by decide⟩
theorem d_To_isWord_8 : dz b_To_isWord 8 (.aload_n 0) 1 9 := ⟨by decide +kernel, rfl⟩
theorem d_To_isWord_9 : dz b_To_isWord 9 (.getfield 21) 3 12 := ⟨by decide +kernel, rfl⟩
theorem d_To_isWord_12 : dz b_To_isWord 12 (.lload_n 1) 1 13 := ⟨by decide +kernel, rfl⟩
theorem d_To_isWord_13 : dz b_To_isWord 13 (.lcmp) 1 14 := ⟨by decide +kernel, rfl⟩
theorem d_To_isWord_14 : dj b_To_isWord 14 (.ifCond .ne) 17 21 := ⟨7, by decide +kernel, rfl, by decide⟩
theorem d_To_isWord_17 : dz b_To_isWord 17 (.iconst 1) 1 18 := ⟨by decide +kernel, rfl⟩
theorem d_To_isWord_18 : dj b_To_isWord 18 (.goto) 21 22 := ⟨4, by decide +kernel, rfl, by decide⟩
theorem d_To_isWord_21 : dz b_To_isWord 21 (.iconst 0) 1 22 := ⟨by decide +kernel, rfl⟩
theorem d_To_isWord_22 : dz b_To_isWord 22 (.ireturn) 1 23 := ⟨by decide +kernel, rfl⟩
theorem d_TL_init_0 : dz b_TL_init 0 (.aload_n 0) 1 1 := ⟨by decide +kernel, rfl⟩
theorem d_TL_init_1 : dz b_TL_init 1 (.invokespecial 1) 3 4 := ⟨by decide +kernel, rfl⟩
theorem d_TL_init_4 : dz b_TL_init 4 (.aload_n 0) 1 5 := ⟨by decide +kernel, rfl⟩
theorem d_TL_init_5 : dz b_TL_init 5 (.new 7) 3 8 := ⟨by decide +kernel, rfl⟩
theorem d_TL_init_8 : dz b_TL_init 8 (.dup) 1 9 := ⟨by decide +kernel, rfl⟩
theorem d_TL_init_9 : dz b_TL_init 9 (.invokespecial 9) 3 12 := ⟨by decide +kernel, rfl⟩
theorem d_TL_init_12 : dz b_TL_init 12 (.putfield 10) 3 15 := ⟨by decide +kernel, rfl⟩
theorem d_TL_init_15 : dz b_TL_init 15 (.aload_n 0) 1 16 := ⟨by decide +kernel, rfl⟩
theorem d_TL_init_16 : dz b_TL_init 16 (.new 16) 3 19 := ⟨by decide +kernel, rfl⟩
theorem d_TL_init_19 : dz b_TL_init 19 (.dup) 1 20 := ⟨by decide +kernel, rfl⟩
theorem d_TL_init_20 : dz b_TL_init 20 (.invokespecial 18) 3 23 := ⟨by decide +kernel, rfl⟩
theorem d_TL_init_23 : dz b_TL_init 23 (.putfield 19) 3 26 := ⟨by decide +kernel, rfl⟩
theorem d_TL_init_26 : dz b_TL_init 26 (.aload_n 0) 1 27 := ⟨by decide +kernel, rfl⟩
theorem d_TL_init_27 : dz b_TL_init 27 (.new 23) 3 30 := ⟨by decide +kernel, rfl⟩
theorem d_TL_init_30 : dz b_TL_init 30 (.dup) 1 31 := ⟨by decide +kernel, rfl⟩
theorem d_TL_init_31 : dz b_TL_init 31 (.aload_n 0) 1 32 := ⟨by decide +kernel, rfl⟩
theorem d_TL_init_32 : dz b_TL_init 32 (.getfield 19) 3 35 := ⟨by decide +kernel, rfl⟩
theorem d_TL_init_35 : dz b_TL_init 35 (.aload_n 0) 1 36 := ⟨by decide +kernel, rfl⟩
theorem d_TL_init_36 : dz b_TL_init 36 (.getfield 10) 3 39 := ⟨by decide +kernel, rfl⟩
theorem d_TL_init_39 : dz b_TL_init 39 (.invokespecial 25) 3 42 := ⟨by decide +kernel, rfl⟩
theorem d_TL_init_42 : dz b_TL_init 42 (.putfield 28) 3 45 := ⟨by decide +kernel, rfl⟩
theorem d_TL_init_45 : dz b_TL_init 45 (.aload_n 0) 1 46 := ⟨by decide +kernel, rfl⟩
theorem d_TL_init_46 : dz b_TL_init 46 (.new 32) 3 49 := ⟨by decide +kernel, rfl⟩
theorem d_TL_init_49 : dz b_TL_init 49 (.dup) 1 50 := ⟨by decide +kernel, rfl⟩
theorem d_TL_init_50 : dz b_TL_init 50 (.invokespecial 34) 3 53 := ⟨by decide +kernel, rfl⟩
theorem d_TL_init_53 : dz b_TL_init 53 (.putfield 35) 3 56 := ⟨by decide +kernel, rfl⟩
theorem d_TL_init_56 : dz b_TL_init 56 (.aload_n 0) 1 57 := ⟨by decide +kernel, rfl⟩
theorem d_TL_init_57 : dz b_TL_init 57 (.new 39) 3 60 := ⟨by decide +kernel, rfl⟩
theorem d_TL_init_60 : dz b_TL_init 60 (.dup) 1 61 := ⟨by decide +kernel, rfl⟩
theorem d_TL_init_61 : dz b_TL_init 61 (.aload_n 0) 1 62 := ⟨by decide +kernel, rfl⟩
theorem d_TL_init_62 : dz b_TL_init 62 (.getfield 10) 3 65 := ⟨by decide +kernel, rfl⟩
theorem d_TL_init_65 : dz b_TL_init 65 (.aload_n 0) 1 66 := ⟨by decide +kernel, rfl⟩
theorem d_TL_init_66 : dz b_TL_init 66 (.getfield 35) 3 69 := ⟨by decide +kernel, rfl⟩
theorem d_TL_init_69 : dz b_TL_init 69 (.invokespecial 41) 3 72 := ⟨by decide +kernel, rfl⟩
theorem d_TL_init_72 : dz b_TL_init 72 (.putfield 44) 3 75 := ⟨by decide +kernel, rfl⟩
theorem d_TL_init_75 : dz b_TL_init 75 (.aload_n 0) 1 76 := ⟨by decide +kernel, rfl⟩
theorem d_TL_init_76 : dz b_TL_init 76 (.new 48) 3 79 := ⟨by decide +kernel, rfl⟩
theorem d_TL_init_79 : dz b_TL_init 79 (.dup) 1 80 := ⟨by decide +kernel, rfl⟩
theorem d_TL_init_80 : dz b_TL_init 80 (.aload_n 0) 1 81 := ⟨by decide +kernel, rfl⟩
theorem d_TL_init_81 : dz b_TL_init 81 (.getfield 10) 3 84 := ⟨by decide +kernel, rfl⟩
theorem d_TL_init_84 : dz b_TL_init 84 (.invokespecial 50) 3 87 := ⟨by decide +kernel, rfl⟩
theorem d_TL_init_87 : dz b_TL_init 87 (.putfield 53) 3 90 := ⟨by decide +kernel, rfl⟩
theorem d_TL_init_90 : dz b_TL_init 90 (.aload_n 0) 1 91 := ⟨by decide +kernel, rfl⟩
theorem d_TL_init_91 : dz b_TL_init 91 (.new 57) 3 94 := ⟨by decide +kernel, rfl⟩
theorem d_TL_init_94 : dz b_TL_init 94 (.dup) 1 95 := ⟨by decide +kernel, rfl⟩
theorem d_TL_init_95 : dz b_TL_init 95 (.invokespecial 59) 3 98 := ⟨by decide +kernel, rfl⟩
theorem d_TL_init_98 : dz b_TL_init 98 (.putfield 60) 3 101 := ⟨by decide +kernel, rfl⟩
theorem d_TL_init_101 : dz b_TL_init 101 (.aload_n 0) 1 102 := ⟨by decide +kernel, rfl⟩
theorem d_TL_init_102 : dz b_TL_init 102 (.new 64) 3 105 := ⟨by decide +kernel, rfl⟩
theorem d_TL_init_105 : dz b_TL_init 105 (.dup) 1 106 := ⟨by decide +kernel, rfl⟩
theorem d_TL_init_106 : dz b_TL_init 106 (.invokespecial 66) 3 109 := ⟨by decide +kernel, rfl⟩
theorem d_TL_init_109 : dz b_TL_init 109 (.putfield 67) 3 112 := ⟨by decide +kernel, rfl⟩
theorem d_TL_init_112 : dz b_TL_init 112 (.aload_n 0) 1 113 := ⟨by decide +kernel, rfl⟩
theorem d_TL_init_113 : dz b_TL_init 113 (.iconst 0) 1 114 := ⟨by decide +kernel, rfl⟩
theorem d_TL_init_114 : dz b_TL_init 114 (.putfield 71) 3 117 := ⟨by decide +kernel, rfl⟩
theorem d_TL_init_117 : dz b_TL_init 117 (.return_) 1 118 := ⟨by decide +kernel, rfl⟩
theorem d_TL_man_0 : dz b_TL_man 0 (.iload_n 3) 1 1 := ⟨by decide +kernel, rfl⟩
theorem d_TL_man_1 : dz b_TL_man 1 (.iconst 2) 1 2 := ⟨by decide +kernel, rfl⟩
theorem d_TL_man_2 : dz b_TL_man 2 (.invokestatic 75) 3 5 := ⟨by decide +kernel, rfl⟩
theorem d_TL_man_5 : dj b_TL_man 5 (.ifCond .eq) 8 17 := ⟨12, by decide +kernel, rfl, by decide⟩
theorem d_TL_man_8 : dz b_TL_man 8 (.iload 4) 2 10 := ⟨by decide +kernel, rfl⟩
theorem d_TL_man_10 : dz b_TL_man 10 (.iconst 4) 1 11 := ⟨by decide +kernel, rfl⟩
theorem d_TL_man_11 : dz b_TL_man 11 (.invokestatic 75) 3 14 := ⟨by decide +kernel, rfl⟩
theorem d_TL_man_14 : dj b_TL_man 14 (.ifCond .ne) 17 19 := ⟨5, by decide +kernel, rfl, by decide⟩
theorem d_TL_man_17 : dz b_TL_man 17 (.iconst (-1)) 1 18 := ⟨by decide +kernel, rfl⟩
theorem d_TL_man_18 : dz b_TL_man 18 (.ireturn) 1 19 := ⟨by decide +kernel, rfl⟩
theorem d_TL_man_19 : dz b_TL_man 19 (.aload_n 0) 1 20 := ⟨by decide +kernel, rfl⟩
theorem d_TL_man_20 : dz b_TL_man 20 (.getfield 10) 3 23 := ⟨by decide +kernel, rfl⟩
theorem d_TL_man_23 : dz b_TL_man 23 (.lload_n 1) 1 24 := ⟨by decide +kernel, rfl⟩
theorem d_TL_man_24 : dz b_TL_man 24 (.iload_n 3) 1 25 := ⟨by decide +kernel, rfl⟩
theorem d_TL_man_25 : dz b_TL_man 25 (.iload 4) 2 27 := ⟨by decide +kernel, rfl⟩
theorem d_TL_man_27 : dz b_TL_man 27 (.invokevirtual 79) 3 30 := ⟨by decide +kernel, rfl⟩
theorem d_TL_man_30 : dz b_TL_man 30 (.ireturn) 1 31 := ⟨by decide +kernel, rfl⟩
theorem d_TL_feed_0 : dz b_TL_feed 0 (.aload_n 0) 1 1 := ⟨by decide +kernel, rfl⟩
theorem d_TL_feed_1 : dz b_TL_feed 1 (.getfield 19) 3 4 := ⟨by decide +kernel, rfl⟩
theorem d_TL_feed_4 : dz b_TL_feed 4 (.bipush 20) 2 6 := ⟨by decide +kernel, rfl⟩
theorem d_TL_feed_6 : dz b_TL_feed 6 (.invokevirtual 83) 3 9 := ⟨by decide +kernel, rfl⟩
theorem d_TL_feed_9 : dj b_TL_feed 9 (.ifCond .ne) 12 14 := ⟨5, by decide +kernel, rfl, by decide⟩
theorem d_TL_feed_12 : dz b_TL_feed 12 (.iconst (-1)) 1 13 := ⟨by decide +kernel, rfl⟩
theorem d_TL_feed_13 : dz b_TL_feed 13 (.ireturn) 1 14 := ⟨by decide +kernel, rfl⟩
theorem d_TL_feed_14 : dz b_TL_feed 14 (.aload_n 0) 1 15 := ⟨by decide +kernel, rfl⟩
theorem d_TL_feed_15 : dz b_TL_feed 15 (.getfield 19) 3 18 := ⟨by decide +kernel, rfl⟩
theorem d_TL_feed_18 : dz b_TL_feed 18 (.iload_n 1) 1 19 := ⟨by decide +kernel, rfl⟩
theorem d_TL_feed_19 : dz b_TL_feed 19 (.invokevirtual 87) 3 22 := ⟨by decide +kernel, rfl⟩
theorem d_TL_feed_22 : dz b_TL_feed 22 (.aload_n 0) 1 23 := ⟨by decide +kernel, rfl⟩
theorem d_TL_feed_23 : dz b_TL_feed 23 (.getfield 19) 3 26 := ⟨by decide +kernel, rfl⟩
theorem d_TL_feed_26 : dz b_TL_feed 26 (.iload_n 2) 1 27 := ⟨by decide +kernel, rfl⟩
theorem d_TL_feed_27 : dz b_TL_feed 27 (.invokevirtual 87) 3 30 := ⟨by decide +kernel, rfl⟩
theorem d_TL_feed_30 : dz b_TL_feed 30 (.aload_n 0) 1 31 := ⟨by decide +kernel, rfl⟩
theorem d_TL_feed_31 : dz b_TL_feed 31 (.getfield 19) 3 34 := ⟨by decide +kernel, rfl⟩
theorem d_TL_feed_34 : dz b_TL_feed 34 (.iload_n 3) 1 35 := ⟨by decide +kernel, rfl⟩
theorem d_TL_feed_35 : dz b_TL_feed 35 (.invokevirtual 87) 3 38 := ⟨by decide +kernel, rfl⟩
theorem d_TL_feed_38 : dz b_TL_feed 38 (.aload_n 0) 1 39 := ⟨by decide +kernel, rfl⟩
theorem d_TL_feed_39 : dz b_TL_feed 39 (.getfield 19) 3 42 := ⟨by decide +kernel, rfl⟩
theorem d_TL_feed_42 : dz b_TL_feed 42 (.iload 4) 2 44 := ⟨by decide +kernel, rfl⟩
theorem d_TL_feed_44 : dz b_TL_feed 44 (.invokevirtual 87) 3 47 := ⟨by decide +kernel, rfl⟩
theorem d_TL_feed_47 : dz b_TL_feed 47 (.aload_n 0) 1 48 := ⟨by decide +kernel, rfl⟩
theorem d_TL_feed_48 : dz b_TL_feed 48 (.getfield 19) 3 51 := ⟨by decide +kernel, rfl⟩
theorem d_TL_feed_51 : dz b_TL_feed 51 (.iload 5) 2 53 := ⟨by decide +kernel, rfl⟩
theorem d_TL_feed_53 : dz b_TL_feed 53 (.invokevirtual 87) 3 56 := ⟨by decide +kernel, rfl⟩
theorem d_TL_feed_56 : dz b_TL_feed 56 (.aload_n 0) 1 57 := ⟨by decide +kernel, rfl⟩
theorem d_TL_feed_57 : dz b_TL_feed 57 (.getfield 19) 3 60 := ⟨by decide +kernel, rfl⟩
theorem d_TL_feed_60 : dz b_TL_feed 60 (.getfield 91) 3 63 := ⟨by decide +kernel, rfl⟩
theorem d_TL_feed_63 : dz b_TL_feed 63 (.ireturn) 1 64 := ⟨by decide +kernel, rfl⟩
theorem d_TL_end_0 : dz b_TL_end 0 (.aload_n 0) 1 1 := ⟨by decide +kernel, rfl⟩
theorem d_TL_end_1 : dz b_TL_end 1 (.getfield 19) 3 4 := ⟨by decide +kernel, rfl⟩
theorem d_TL_end_4 : dz b_TL_end 4 (.iload_n 1) 1 5 := ⟨by decide +kernel, rfl⟩
theorem d_TL_end_5 : dz b_TL_end 5 (.invokevirtual 94) 3 8 := ⟨by decide +kernel, rfl⟩
theorem d_TL_end_8 : dj b_TL_end 8 (.ifCond .eq) 11 15 := ⟨7, by decide +kernel, rfl, by decide⟩
theorem d_TL_end_11 : dz b_TL_end 11 (.iload_n 1) 1 12 := ⟨by decide +kernel, rfl⟩
theorem d_TL_end_12 : dj b_TL_end 12 (.goto) 15 16 := ⟨4, by decide +kernel, rfl, by decide⟩
theorem d_TL_end_15 : dz b_TL_end 15 (.iconst (-1)) 1 16 := ⟨by decide +kernel, rfl⟩
theorem d_TL_end_16 : dz b_TL_end 16 (.ireturn) 1 17 := ⟨by decide +kernel, rfl⟩
theorem d_TL_flake_0 : dz b_TL_flake 0 (.aload_n 0) 1 1 := ⟨by decide +kernel, rfl⟩
theorem d_TL_flake_1 : dz b_TL_flake 1 (.getfield 35) 3 4 := ⟨by decide +kernel, rfl⟩
theorem d_TL_flake_4 : dz b_TL_flake 4 (.invokevirtual 97) 3 7 := ⟨by decide +kernel, rfl⟩
theorem d_TL_flake_7 : dj b_TL_flake 7 (.ifCond .eq) 10 13 := ⟨6, by decide +kernel, rfl, by decide⟩
theorem d_TL_flake_10 : dz b_TL_flake 10 (.bipush (-2)) 2 12 := ⟨by decide +kernel, rfl⟩
theorem d_TL_flake_12 : dz b_TL_flake 12 (.ireturn) 1 13 := ⟨by decide +kernel, rfl⟩
theorem d_TL_flake_13 : dz b_TL_flake 13 (.new 101) 3 16 := ⟨by decide +kernel, rfl⟩
theorem d_TL_flake_16 : dz b_TL_flake 16 (.dup) 1 17 := ⟨by decide +kernel, rfl⟩
theorem d_TL_flake_17 : dz b_TL_flake 17 (.aload_n 0) 1 18 := ⟨by decide +kernel, rfl⟩
theorem d_TL_flake_18 : dz b_TL_flake 18 (.getfield 71) 3 21 := ⟨by decide +kernel, rfl⟩
theorem d_TL_flake_21 : dz b_TL_flake 21 (.invokespecial 103) 3 24 := ⟨by decide +kernel, rfl⟩
theorem d_TL_flake_24 : dz b_TL_flake 24 (.astore_n 1) 1 25 := ⟨by decide +kernel, rfl⟩
theorem d_TL_flake_25 : dz b_TL_flake 25 (.aload_n 0) 1 26 := ⟨by decide +kernel, rfl⟩
theorem d_TL_flake_26 : dz b_TL_flake 26 (.getfield 28) 3 29 := ⟨by decide +kernel, rfl⟩
theorem d_TL_flake_29 : dz b_TL_flake 29 (.aload_n 1) 1 30 := ⟨by decide +kernel, rfl⟩
theorem d_TL_flake_30 : dz b_TL_flake 30 (.invokevirtual 105) 3 33 := ⟨by decide +kernel, rfl⟩
theorem d_TL_flake_33 : dz b_TL_flake 33 (.istore_n 2) 1 34 := ⟨by decide +kernel, rfl⟩
theorem d_TL_flake_34 : dz b_TL_flake 34 (.aload_n 0) 1 35 := ⟨by decide +kernel, rfl⟩
theorem d_TL_flake_35 : dz b_TL_flake 35 (.getfield 19) 3 38 := ⟨by decide +kernel, rfl⟩
theorem d_TL_flake_38 : dz b_TL_flake 38 (.iconst 0) 1 39 := ⟨by decide +kernel, rfl⟩
theorem d_TL_flake_39 : dz b_TL_flake 39 (.invokevirtual 94) 3 42 := ⟨by decide +kernel, rfl⟩
theorem d_TL_flake_42 : dz b_TL_flake 42 (.pop) 1 43 := ⟨by decide +kernel, rfl⟩
theorem d_TL_flake_43 : dz b_TL_flake 43 (.iload_n 2) 1 44 := ⟨by decide +kernel, rfl⟩
theorem d_TL_flake_44 : dj b_TL_flake 44 (.ifCond .eq) 47 58 := ⟨14, by decide +kernel, rfl, by decide⟩
theorem d_TL_flake_47 : dz b_TL_flake 47 (.aload_n 0) 1 48 := ⟨by decide +kernel, rfl⟩
theorem d_TL_flake_48 : dz b_TL_flake 48 (.getfield 35) 3 51 := ⟨by decide +kernel, rfl⟩
theorem d_TL_flake_51 : dz b_TL_flake 51 (.aload_n 1) 1 52 := ⟨by decide +kernel, rfl⟩
theorem d_TL_flake_52 : dz b_TL_flake 52 (.invokevirtual 109) 3 55 := ⟨by decide +kernel, rfl⟩
theorem d_TL_flake_55 : dj b_TL_flake 55 (.goto) 58 59 := ⟨4, by decide +kernel, rfl, by decide⟩
theorem d_TL_flake_58 : dz b_TL_flake 58 (.iconst (-1)) 1 59 := ⟨by decide +kernel, rfl⟩
theorem d_TL_flake_59 : dz b_TL_flake 59 (.ireturn) 1 60 := ⟨by decide +kernel, rfl⟩
theorem d_TL_fault_0 : dz b_TL_fault 0 (.iload_n 1) 1 1 := ⟨by decide +kernel, rfl⟩
theorem d_TL_fault_1 : dj b_TL_fault 1 (.ifCond .ne) 4 12 := ⟨11, by decide +kernel, rfl, by decide⟩
theorem d_TL_fault_4 : dz b_TL_fault 4 (.aload_n 0) 1 5 := ⟨by decide +kernel, rfl⟩
theorem d_TL_fault_5 : dz b_TL_fault 5 (.getfield 28) 3 8 := ⟨by decide +kernel, rfl⟩
theorem d_TL_fault_8 : dz b_TL_fault 8 (.getfield 113) 3 11 := ⟨by decide +kernel, rfl⟩
theorem d_TL_fault_11 : dz b_TL_fault 11 (.ireturn) 1 12 := ⟨by decide +kernel, rfl⟩
theorem d_TL_fault_12 : dz b_TL_fault 12 (.iload_n 1) 1 13 := ⟨by decide +kernel, rfl⟩
theorem d_TL_fault_13 : dz b_TL_fault 13 (.iconst 1) 1 14 := ⟨by decide +kernel, rfl⟩
theorem d_TL_fault_14 : dj b_TL_fault 14 (.if_icmp .ne) 17 27 := ⟨13, by decide +kernel, rfl, by decide⟩
theorem d_TL_fault_17 : dz b_TL_fault 17 (.aload_n 0) 1 18 := ⟨by decide +kernel, rfl⟩
theorem d_TL_fault_18 : dz b_TL_fault 18 (.getfield 28) 3 21 := ⟨by decide +kernel, rfl⟩
theorem d_TL_fault_21 : dz b_TL_fault 21 (.getfield 116) 3 24 := ⟨by decide +kernel, rfl⟩
theorem d_TL_fault_24 : dj b_TL_fault 24 (.goto) 27 28 := ⟨4, by decide +kernel, rfl, by decide⟩
theorem d_TL_fault_27 : dz b_TL_fault 27 (.iconst (-1)) 1 28 := ⟨by decide +kernel, rfl⟩
theorem d_TL_fault_28 : dz b_TL_fault 28 (.ireturn) 1 29 := ⟨by decide +kernel, rfl⟩
theorem d_TL_giveUp_0 : dz b_TL_giveUp 0 (.aload_n 0) 1 1 := ⟨by decide +kernel, rfl⟩
theorem d_TL_giveUp_1 : dz b_TL_giveUp 1 (.getfield 35) 3 4 := ⟨by decide +kernel, rfl⟩
theorem d_TL_giveUp_4 : dz b_TL_giveUp 4 (.iload_n 1) 1 5 := ⟨by decide +kernel, rfl⟩
theorem d_TL_giveUp_5 : dz b_TL_giveUp 5 (.aload_n 0) 1 6 := ⟨by decide +kernel, rfl⟩
theorem d_TL_giveUp_6 : dz b_TL_giveUp 6 (.getfield 71) 3 9 := ⟨by decide +kernel, rfl⟩
theorem d_TL_giveUp_9 : dz b_TL_giveUp 9 (.invokevirtual 119) 3 12 := ⟨by decide +kernel, rfl⟩
theorem d_TL_giveUp_12 : dz b_TL_giveUp 12 (.ireturn) 1 13 := ⟨by decide +kernel, rfl⟩
theorem d_TL_later_0 : dz b_TL_later 0 (.iload_n 1) 1 1 := ⟨by decide +kernel, rfl⟩
theorem d_TL_later_1 : dj b_TL_later 1 (.ifCond .lt) 4 22 := ⟨21, by decide +kernel, rfl, by decide⟩
theorem d_TL_later_4 : dz b_TL_later 4 (.iload_n 1) 1 5 := ⟨by decide +kernel, rfl⟩
theorem d_TL_later_5 : dz b_TL_later 5 (.sipush 1000) 3 8 := ⟨by decide +kernel, rfl⟩
theorem d_TL_later_8 : dj b_TL_later 8 (.if_icmp .gt) 11 22 := ⟨14, by decide +kernel, rfl, by decide⟩
theorem d_TL_later_11 : dz b_TL_later 11 (.aload_n 0) 1 12 := ⟨by decide +kernel, rfl⟩
theorem d_TL_later_12 : dz b_TL_later 12 (.getfield 71) 3 15 := ⟨by decide +kernel, rfl⟩
theorem d_TL_later_15 : dz b_TL_later 15 (.iload_n 1) 1 16 := ⟨by decide +kernel, rfl⟩
theorem d_TL_later_16 : dz b_TL_later 16 (.iadd) 1 17 := ⟨by decide +kernel, rfl⟩
theorem d_TL_later_17 : dz b_TL_later 17 (.ldc 122) 2 19 := ⟨by decide +kernel, rfl⟩
theorem d_TL_later_19 : dj b_TL_later 19 (.if_icmp .le) 22 24 := ⟨5, by decide +kernel, rfl, by decide⟩
theorem d_TL_later_22 : dz b_TL_later 22 (.iconst (-1)) 1 23 := ⟨by decide +kernel, rfl⟩
theorem d_TL_later_23 : dz b_TL_later 23 (.ireturn) 1 24 := ⟨by decide +kernel, rfl⟩
theorem d_TL_later_24 : dz b_TL_later 24 (.aload_n 0) 1 25 := ⟨by decide +kernel, rfl⟩
theorem d_TL_later_25 : dz b_TL_later 25 (.dup) 1 26 := ⟨by decide +kernel, rfl⟩
theorem d_TL_later_26 : dz b_TL_later 26 (.getfield 71) 3 29 := ⟨by decide +kernel, rfl⟩
theorem d_TL_later_29 : dz b_TL_later 29 (.iload_n 1) 1 30 := ⟨by decide +kernel, rfl⟩
theorem d_TL_later_30 : dz b_TL_later 30 (.iadd) 1 31 := ⟨by decide +kernel, rfl⟩
theorem d_TL_later_31 : dz b_TL_later 31 (.putfield 71) 3 34 := ⟨by decide +kernel, rfl⟩
theorem d_TL_later_34 : dz b_TL_later 34 (.aload_n 0) 1 35 := ⟨by decide +kernel, rfl⟩
theorem d_TL_later_35 : dz b_TL_later 35 (.getfield 71) 3 38 := ⟨by decide +kernel, rfl⟩
theorem d_TL_later_38 : dz b_TL_later 38 (.ireturn) 1 39 := ⟨by decide +kernel, rfl⟩
theorem d_TL_day_0 : dz b_TL_day 0 (.aload_n 0) 1 1 := ⟨by decide +kernel, rfl⟩
theorem d_TL_day_1 : dz b_TL_day 1 (.getfield 10) 3 4 := ⟨by decide +kernel, rfl⟩
theorem d_TL_day_4 : dz b_TL_day 4 (.iload_n 1) 1 5 := ⟨by decide +kernel, rfl⟩
theorem d_TL_day_5 : dz b_TL_day 5 (.invokevirtual 123) 3 8 := ⟨by decide +kernel, rfl⟩
theorem d_TL_day_8 : dj b_TL_day 8 (.ifCond .eq) 11 21 := ⟨13, by decide +kernel, rfl, by decide⟩
theorem d_TL_day_11 : dz b_TL_day 11 (.iload_n 2) 1 12 := ⟨by decide +kernel, rfl⟩
theorem d_TL_day_12 : dz b_TL_day 12 (.sipush 3600) 3 15 := ⟨by decide +kernel, rfl⟩
theorem d_TL_day_15 : dz b_TL_day 15 (.invokestatic 75) 3 18 := ⟨by decide +kernel, rfl⟩
theorem d_TL_day_18 : dj b_TL_day 18 (.ifCond .ne) 21 23 := ⟨5, by decide +kernel, rfl, by decide⟩
theorem d_TL_day_21 : dz b_TL_day 21 (.iconst (-1)) 1 22 := ⟨by decide +kernel, rfl⟩
theorem d_TL_day_22 : dz b_TL_day 22 (.ireturn) 1 23 := ⟨by decide +kernel, rfl⟩
theorem d_TL_day_23 : dz b_TL_day 23 (.aload_n 0) 1 24 := ⟨by decide +kernel, rfl⟩
theorem d_TL_day_24 : dz b_TL_day 24 (.getfield 44) 3 27 := ⟨by decide +kernel, rfl⟩
theorem d_TL_day_27 : dz b_TL_day 27 (.iload_n 1) 1 28 := ⟨by decide +kernel, rfl⟩
theorem d_TL_day_28 : dz b_TL_day 28 (.iload_n 2) 1 29 := ⟨by decide +kernel, rfl⟩
theorem d_TL_day_29 : dz b_TL_day 29 (.iload_n 3) 1 30 := ⟨by decide +kernel, rfl⟩
theorem d_TL_day_30 : dz b_TL_day 30 (.invokevirtual 126) 3 33 := ⟨by decide +kernel, rfl⟩
theorem d_TL_day_33 : dz b_TL_day 33 (.ireturn) 1 34 := ⟨by decide +kernel, rfl⟩
theorem d_TL_wicks_0 : dz b_TL_wicks 0 (.iload_n 1) 1 1 := ⟨by decide +kernel, rfl⟩
theorem d_TL_wicks_1 : dz b_TL_wicks 1 (.iconst 2) 1 2 := ⟨by decide +kernel, rfl⟩
theorem d_TL_wicks_2 : dz b_TL_wicks 2 (.invokestatic 75) 3 5 := ⟨by decide +kernel, rfl⟩
theorem d_TL_wicks_5 : dj b_TL_wicks 5 (.ifCond .eq) 8 18 := ⟨13, by decide +kernel, rfl, by decide⟩
theorem d_TL_wicks_8 : dz b_TL_wicks 8 (.iload_n 2) 1 9 := ⟨by decide +kernel, rfl⟩
theorem d_TL_wicks_9 : dz b_TL_wicks 9 (.sipush 3600) 3 12 := ⟨by decide +kernel, rfl⟩
theorem d_TL_wicks_12 : dz b_TL_wicks 12 (.invokestatic 75) 3 15 := ⟨by decide +kernel, rfl⟩
theorem d_TL_wicks_15 : dj b_TL_wicks 15 (.ifCond .ne) 18 20 := ⟨5, by decide +kernel, rfl, by decide⟩
theorem d_TL_wicks_18 : dz b_TL_wicks 18 (.iconst (-1)) 1 19 := ⟨by decide +kernel, rfl⟩
theorem d_TL_wicks_19 : dz b_TL_wicks 19 (.ireturn) 1 20 := ⟨by decide +kernel, rfl⟩
theorem d_TL_wicks_20 : dz b_TL_wicks 20 (.aload_n 0) 1 21 := ⟨by decide +kernel, rfl⟩
theorem d_TL_wicks_21 : dz b_TL_wicks 21 (.getfield 44) 3 24 := ⟨by decide +kernel, rfl⟩
theorem d_TL_wicks_24 : dz b_TL_wicks 24 (.iload_n 1) 1 25 := ⟨by decide +kernel, rfl⟩
theorem d_TL_wicks_25 : dz b_TL_wicks 25 (.iload_n 2) 1 26 := ⟨by decide +kernel, rfl⟩
theorem d_TL_wicks_26 : dz b_TL_wicks 26 (.iload_n 3) 1 27 := ⟨by decide +kernel, rfl⟩
theorem d_TL_wicks_27 : dz b_TL_wicks 27 (.invokevirtual 130) 3 30 := ⟨by decide +kernel, rfl⟩
theorem d_TL_wicks_30 : dz b_TL_wicks 30 (.ireturn) 1 31 := ⟨by decide +kernel, rfl⟩
theorem d_TL_span_0 : dz b_TL_span 0 (.aload_n 0) 1 1 := ⟨by decide +kernel, rfl⟩
theorem d_TL_span_1 : dz b_TL_span 1 (.getfield 10) 3 4 := ⟨by decide +kernel, rfl⟩
theorem d_TL_span_4 : dz b_TL_span 4 (.iload_n 1) 1 5 := ⟨by decide +kernel, rfl⟩
theorem d_TL_span_5 : dz b_TL_span 5 (.invokevirtual 123) 3 8 := ⟨by decide +kernel, rfl⟩
theorem d_TL_span_8 : dj b_TL_span 8 (.ifCond .eq) 11 20 := ⟨12, by decide +kernel, rfl, by decide⟩
theorem d_TL_span_11 : dz b_TL_span 11 (.iload_n 2) 1 12 := ⟨by decide +kernel, rfl⟩
theorem d_TL_span_12 : dz b_TL_span 12 (.bipush 120) 2 14 := ⟨by decide +kernel, rfl⟩
theorem d_TL_span_14 : dz b_TL_span 14 (.invokestatic 75) 3 17 := ⟨by decide +kernel, rfl⟩
theorem d_TL_span_17 : dj b_TL_span 17 (.ifCond .ne) 20 22 := ⟨5, by decide +kernel, rfl, by decide⟩
theorem d_TL_span_20 : dz b_TL_span 20 (.iconst (-1)) 1 21 := ⟨by decide +kernel, rfl⟩
theorem d_TL_span_21 : dz b_TL_span 21 (.ireturn) 1 22 := ⟨by decide +kernel, rfl⟩
theorem d_TL_span_22 : dz b_TL_span 22 (.aload_n 0) 1 23 := ⟨by decide +kernel, rfl⟩
theorem d_TL_span_23 : dz b_TL_span 23 (.getfield 44) 3 26 := ⟨by decide +kernel, rfl⟩
theorem d_TL_span_26 : dz b_TL_span 26 (.iload_n 1) 1 27 := ⟨by decide +kernel, rfl⟩
theorem d_TL_span_27 : dz b_TL_span 27 (.iload_n 2) 1 28 := ⟨by decide +kernel, rfl⟩
theorem d_TL_span_28 : dz b_TL_span 28 (.iload_n 3) 1 29 := ⟨by decide +kernel, rfl⟩
theorem d_TL_span_29 : dz b_TL_span 29 (.invokevirtual 133) 3 32 := ⟨by decide +kernel, rfl⟩
theorem d_TL_span_32 : dz b_TL_span 32 (.astore 5) 2 34 := ⟨by decide +kernel, rfl⟩
theorem d_TL_span_34 : dz b_TL_span 34 (.iload 4) 2 36 := ⟨by decide +kernel, rfl⟩
theorem d_TL_span_36 : dj b_TL_span 36 (.ifCond .eq) 39 57 := ⟨21, by decide +kernel, rfl, by decide⟩
theorem d_TL_span_39 : dz b_TL_span 39 (.aload 5) 2 41 := ⟨by decide +kernel, rfl⟩
theorem d_TL_span_41 : dz b_TL_span 41 (.iconst 1) 1 42 := ⟨by decide +kernel, rfl⟩
theorem d_TL_span_42 : dz b_TL_span 42 (.iaload) 1 43 := ⟨by decide +kernel, rfl⟩
theorem d_TL_span_43 : dz b_TL_span 43 (.aload 5) 2 45 := ⟨by decide +kernel, rfl⟩
theorem d_TL_span_45 : dz b_TL_span 45 (.iconst 0) 1 46 := ⟨by decide +kernel, rfl⟩
theorem d_TL_span_46 : dz b_TL_span 46 (.iaload) 1 47 := ⟨by decide +kernel, rfl⟩
theorem d_TL_span_47 : dz b_TL_span 47 (.iadd) 1 48 := ⟨by decide +kernel, rfl⟩
theorem d_TL_span_48 : dz b_TL_span 48 (.aload 5) 2 50 := ⟨by decide +kernel, rfl⟩
theorem d_TL_span_50 : dz b_TL_span 50 (.bipush 7) 2 52 := ⟨by decide +kernel, rfl⟩
theorem d_TL_span_52 : dz b_TL_span 52 (.iaload) 1 53 := ⟨by decide +kernel, rfl⟩
theorem d_TL_span_53 : dz b_TL_span 53 (.iadd) 1 54 := ⟨by decide +kernel, rfl⟩
theorem d_TL_span_54 : dj b_TL_span 54 (.goto) 57 61 := ⟨7, by decide +kernel, rfl, by decide⟩
theorem d_TL_span_57 : dz b_TL_span 57 (.aload 5) 2 59 := ⟨by decide +kernel, rfl⟩
theorem d_TL_span_59 : dz b_TL_span 59 (.iconst 1) 1 60 := ⟨by decide +kernel, rfl⟩
theorem d_TL_span_60 : dz b_TL_span 60 (.iaload) 1 61 := ⟨by decide +kernel, rfl⟩
theorem d_TL_span_61 : dz b_TL_span 61 (.ireturn) 1 62 := ⟨by decide +kernel, rfl⟩
theorem d_TL_missed_0 : dz b_TL_missed 0 (.aload_n 0) 1 1 := ⟨by decide +kernel, rfl⟩
theorem d_TL_missed_1 : dz b_TL_missed 1 (.getfield 10) 3 4 := ⟨by decide +kernel, rfl⟩
theorem d_TL_missed_4 : dz b_TL_missed 4 (.iload_n 1) 1 5 := ⟨by decide +kernel, rfl⟩
theorem d_TL_missed_5 : dz b_TL_missed 5 (.invokevirtual 123) 3 8 := ⟨by decide +kernel, rfl⟩
theorem d_TL_missed_8 : dj b_TL_missed 8 (.ifCond .eq) 11 31 := ⟨23, by decide +kernel, rfl, by decide⟩
theorem d_TL_missed_11 : dz b_TL_missed 11 (.iload_n 2) 1 12 := ⟨by decide +kernel, rfl⟩
theorem d_TL_missed_12 : dz b_TL_missed 12 (.bipush 120) 2 14 := ⟨by decide +kernel, rfl⟩
theorem d_TL_missed_14 : dz b_TL_missed 14 (.invokestatic 75) 3 17 := ⟨by decide +kernel, rfl⟩
theorem d_TL_missed_17 : dj b_TL_missed 17 (.ifCond .eq) 20 31 := ⟨14, by decide +kernel, rfl, by decide⟩
theorem d_TL_missed_20 : dz b_TL_missed 20 (.iload_n 3) 1 21 := ⟨by decide +kernel, rfl⟩
theorem d_TL_missed_21 : dz b_TL_missed 21 (.iconst 2) 1 22 := ⟨by decide +kernel, rfl⟩
theorem d_TL_missed_22 : dj b_TL_missed 22 (.if_icmp .lt) 25 31 := ⟨9, by decide +kernel, rfl, by decide⟩
theorem d_TL_missed_25 : dz b_TL_missed 25 (.iload_n 3) 1 26 := ⟨by decide +kernel, rfl⟩
theorem d_TL_missed_26 : dz b_TL_missed 26 (.bipush 6) 2 28 := ⟨by decide +kernel, rfl⟩
theorem d_TL_missed_28 : dj b_TL_missed 28 (.if_icmp .le) 31 33 := ⟨5, by decide +kernel, rfl, by decide⟩
theorem d_TL_missed_31 : dz b_TL_missed 31 (.iconst (-1)) 1 32 := ⟨by decide +kernel, rfl⟩
theorem d_TL_missed_32 : dz b_TL_missed 32 (.ireturn) 1 33 := ⟨by decide +kernel, rfl⟩
theorem d_TL_missed_33 : dz b_TL_missed 33 (.aload_n 0) 1 34 := ⟨by decide +kernel, rfl⟩
theorem d_TL_missed_34 : dz b_TL_missed 34 (.getfield 44) 3 37 := ⟨by decide +kernel, rfl⟩
theorem d_TL_missed_37 : dz b_TL_missed 37 (.iload_n 1) 1 38 := ⟨by decide +kernel, rfl⟩
theorem d_TL_missed_38 : dz b_TL_missed 38 (.iload_n 2) 1 39 := ⟨by decide +kernel, rfl⟩
theorem d_TL_missed_39 : dz b_TL_missed 39 (.iload 4) 2 41 := ⟨by decide +kernel, rfl⟩
theorem d_TL_missed_41 : dz b_TL_missed 41 (.invokevirtual 133) 3 44 := ⟨by decide +kernel, rfl⟩
theorem d_TL_missed_44 : dz b_TL_missed 44 (.iload_n 3) 1 45 := ⟨by decide +kernel, rfl⟩
theorem d_TL_missed_45 : dz b_TL_missed 45 (.iaload) 1 46 := ⟨by decide +kernel, rfl⟩
theorem d_TL_missed_46 : dz b_TL_missed 46 (.ireturn) 1 47 := ⟨by decide +kernel, rfl⟩
theorem d_TL_ration_0 : dz b_TL_ration 0 (.iload_n 1) 1 1 := ⟨by decide +kernel, rfl⟩
theorem d_TL_ration_1 : dz b_TL_ration 1 (.iconst 4) 1 2 := ⟨by decide +kernel, rfl⟩
theorem d_TL_ration_2 : dz b_TL_ration 2 (.invokestatic 75) 3 5 := ⟨by decide +kernel, rfl⟩
theorem d_TL_ration_5 : dj b_TL_ration 5 (.ifCond .eq) 8 24 := ⟨19, by decide +kernel, rfl, by decide⟩
theorem d_TL_ration_8 : dz b_TL_ration 8 (.aload_n 0) 1 9 := ⟨by decide +kernel, rfl⟩
theorem d_TL_ration_9 : dz b_TL_ration 9 (.getfield 53) 3 12 := ⟨by decide +kernel, rfl⟩
theorem d_TL_ration_12 : dz b_TL_ration 12 (.iload_n 1) 1 13 := ⟨by decide +kernel, rfl⟩
theorem d_TL_ration_13 : dz b_TL_ration 13 (.iload_n 2) 1 14 := ⟨by decide +kernel, rfl⟩
theorem d_TL_ration_14 : dz b_TL_ration 14 (.invokevirtual 137) 3 17 := ⟨by decide +kernel, rfl⟩
theorem d_TL_ration_17 : dj b_TL_ration 17 (.ifCond .eq) 20 24 := ⟨7, by decide +kernel, rfl, by decide⟩
theorem d_TL_ration_20 : dz b_TL_ration 20 (.iconst 1) 1 21 := ⟨by decide +kernel, rfl⟩
theorem d_TL_ration_21 : dj b_TL_ration 21 (.goto) 24 25 := ⟨4, by decide +kernel, rfl, by decide⟩
theorem d_TL_ration_24 : dz b_TL_ration 24 (.iconst 0) 1 25 := ⟨by decide +kernel, rfl⟩
theorem d_TL_ration_25 : dz b_TL_ration 25 (.ireturn) 1 26 := ⟨by decide +kernel, rfl⟩
theorem d_TL_come_0 : dz b_TL_come 0 (.aload_n 0) 1 1 := ⟨by decide +kernel, rfl⟩
theorem d_TL_come_1 : dz b_TL_come 1 (.getfield 10) 3 4 := ⟨by decide +kernel, rfl⟩
theorem d_TL_come_4 : dz b_TL_come 4 (.iload_n 1) 1 5 := ⟨by decide +kernel, rfl⟩
theorem d_TL_come_5 : dz b_TL_come 5 (.invokevirtual 123) 3 8 := ⟨by decide +kernel, rfl⟩
theorem d_TL_come_8 : dj b_TL_come 8 (.ifCond .eq) 11 21 := ⟨13, by decide +kernel, rfl, by decide⟩
theorem d_TL_come_11 : dz b_TL_come 11 (.iload_n 2) 1 12 := ⟨by decide +kernel, rfl⟩
theorem d_TL_come_12 : dz b_TL_come 12 (.sipush 3600) 3 15 := ⟨by decide +kernel, rfl⟩
theorem d_TL_come_15 : dz b_TL_come 15 (.invokestatic 75) 3 18 := ⟨by decide +kernel, rfl⟩
theorem d_TL_come_18 : dj b_TL_come 18 (.ifCond .ne) 21 23 := ⟨5, by decide +kernel, rfl, by decide⟩
theorem d_TL_come_21 : dz b_TL_come 21 (.iconst (-1)) 1 22 := ⟨by decide +kernel, rfl⟩
theorem d_TL_come_22 : dz b_TL_come 22 (.ireturn) 1 23 := ⟨by decide +kernel, rfl⟩
theorem d_TL_come_23 : dz b_TL_come 23 (.aload_n 0) 1 24 := ⟨by decide +kernel, rfl⟩
theorem d_TL_come_24 : dz b_TL_come 24 (.getfield 53) 3 27 := ⟨by decide +kernel, rfl⟩
theorem d_TL_come_27 : dz b_TL_come 27 (.iload_n 1) 1 28 := ⟨by decide +kernel, rfl⟩
theorem d_TL_come_28 : dz b_TL_come 28 (.iload_n 2) 1 29 := ⟨by decide +kernel, rfl⟩
theorem d_TL_come_29 : dz b_TL_come 29 (.iload_n 3) 1 30 := ⟨by decide +kernel, rfl⟩
theorem d_TL_come_30 : dz b_TL_come 30 (.invokevirtual 140) 3 33 := ⟨by decide +kernel, rfl⟩
theorem d_TL_come_33 : dz b_TL_come 33 (.ireturn) 1 34 := ⟨by decide +kernel, rfl⟩
theorem d_TL_arrears_0 : dz b_TL_arrears 0 (.aload_n 0) 1 1 := ⟨by decide +kernel, rfl⟩
theorem d_TL_arrears_1 : dz b_TL_arrears 1 (.getfield 10) 3 4 := ⟨by decide +kernel, rfl⟩
theorem d_TL_arrears_4 : dz b_TL_arrears 4 (.iload_n 1) 1 5 := ⟨by decide +kernel, rfl⟩
theorem d_TL_arrears_5 : dz b_TL_arrears 5 (.invokevirtual 123) 3 8 := ⟨by decide +kernel, rfl⟩
theorem d_TL_arrears_8 : dj b_TL_arrears 8 (.ifCond .eq) 11 21 := ⟨13, by decide +kernel, rfl, by decide⟩
theorem d_TL_arrears_11 : dz b_TL_arrears 11 (.iload_n 2) 1 12 := ⟨by decide +kernel, rfl⟩
theorem d_TL_arrears_12 : dz b_TL_arrears 12 (.sipush 3600) 3 15 := ⟨by decide +kernel, rfl⟩
theorem d_TL_arrears_15 : dz b_TL_arrears 15 (.invokestatic 75) 3 18 := ⟨by decide +kernel, rfl⟩
theorem d_TL_arrears_18 : dj b_TL_arrears 18 (.ifCond .ne) 21 24 := ⟨6, by decide +kernel, rfl, by decide⟩
theorem d_TL_arrears_21 : dz b_TL_arrears 21 (.ldc 143) 2 23 := ⟨by decide +kernel, rfl⟩
theorem d_TL_arrears_23 : dz b_TL_arrears 23 (.ireturn) 1 24 := ⟨by decide +kernel, rfl⟩
theorem d_TL_arrears_24 : dz b_TL_arrears 24 (.aload_n 0) 1 25 := ⟨by decide +kernel, rfl⟩
theorem d_TL_arrears_25 : dz b_TL_arrears 25 (.getfield 53) 3 28 := ⟨by decide +kernel, rfl⟩
theorem d_TL_arrears_28 : dz b_TL_arrears 28 (.iload_n 1) 1 29 := ⟨by decide +kernel, rfl⟩
theorem d_TL_arrears_29 : dz b_TL_arrears 29 (.iload_n 2) 1 30 := ⟨by decide +kernel, rfl⟩
theorem d_TL_arrears_30 : dz b_TL_arrears 30 (.invokevirtual 144) 3 33 := ⟨by decide +kernel, rfl⟩
theorem d_TL_arrears_33 : dz b_TL_arrears 33 (.ireturn) 1 34 := ⟨by decide +kernel, rfl⟩
theorem d_TL_worth_0 : dz b_TL_worth 0 (.iload_n 1) 1 1 := ⟨by decide +kernel, rfl⟩
theorem d_TL_worth_1 : dz b_TL_worth 1 (.iconst 5) 1 2 := ⟨by decide +kernel, rfl⟩
theorem d_TL_worth_2 : dz b_TL_worth 2 (.invokestatic 75) 3 5 := ⟨by decide +kernel, rfl⟩
theorem d_TL_worth_5 : dj b_TL_worth 5 (.ifCond .eq) 8 34 := ⟨29, by decide +kernel, rfl, by decide⟩
theorem d_TL_worth_8 : dz b_TL_worth 8 (.iload_n 2) 1 9 := ⟨by decide +kernel, rfl⟩
theorem d_TL_worth_9 : dz b_TL_worth 9 (.bipush 10) 2 11 := ⟨by decide +kernel, rfl⟩
theorem d_TL_worth_11 : dz b_TL_worth 11 (.invokestatic 75) 3 14 := ⟨by decide +kernel, rfl⟩
theorem d_TL_worth_14 : dj b_TL_worth 14 (.ifCond .eq) 17 34 := ⟨20, by decide +kernel, rfl, by decide⟩
theorem d_TL_worth_17 : dz b_TL_worth 17 (.aload_n 0) 1 18 := ⟨by decide +kernel, rfl⟩
theorem d_TL_worth_18 : dz b_TL_worth 18 (.getfield 60) 3 21 := ⟨by decide +kernel, rfl⟩
theorem d_TL_worth_21 : dz b_TL_worth 21 (.iload_n 1) 1 22 := ⟨by decide +kernel, rfl⟩
theorem d_TL_worth_22 : dz b_TL_worth 22 (.iload_n 2) 1 23 := ⟨by decide +kernel, rfl⟩
theorem d_TL_worth_23 : dz b_TL_worth 23 (.iload_n 3) 1 24 := ⟨by decide +kernel, rfl⟩
theorem d_TL_worth_24 : dz b_TL_worth 24 (.invokevirtual 148) 3 27 := ⟨by decide +kernel, rfl⟩
theorem d_TL_worth_27 : dj b_TL_worth 27 (.ifCond .eq) 30 34 := ⟨7, by decide +kernel, rfl, by decide⟩
theorem d_TL_worth_30 : dz b_TL_worth 30 (.iconst 1) 1 31 := ⟨by decide +kernel, rfl⟩
theorem d_TL_worth_31 : dj b_TL_worth 31 (.goto) 34 35 := ⟨4, by decide +kernel, rfl, by decide⟩
theorem d_TL_worth_34 : dz b_TL_worth 34 (.iconst 0) 1 35 := ⟨by decide +kernel, rfl⟩
theorem d_TL_worth_35 : dz b_TL_worth 35 (.ireturn) 1 36 := ⟨by decide +kernel, rfl⟩
theorem d_TL_debt_0 : dz b_TL_debt 0 (.aload_n 0) 1 1 := ⟨by decide +kernel, rfl⟩
theorem d_TL_debt_1 : dz b_TL_debt 1 (.getfield 10) 3 4 := ⟨by decide +kernel, rfl⟩
theorem d_TL_debt_4 : dz b_TL_debt 4 (.iload_n 1) 1 5 := ⟨by decide +kernel, rfl⟩
theorem d_TL_debt_5 : dz b_TL_debt 5 (.invokevirtual 123) 3 8 := ⟨by decide +kernel, rfl⟩
theorem d_TL_debt_8 : dj b_TL_debt 8 (.ifCond .eq) 11 46 := ⟨38, by decide +kernel, rfl, by decide⟩
theorem d_TL_debt_11 : dz b_TL_debt 11 (.aload_n 0) 1 12 := ⟨by decide +kernel, rfl⟩
theorem d_TL_debt_12 : dz b_TL_debt 12 (.getfield 10) 3 15 := ⟨by decide +kernel, rfl⟩
theorem d_TL_debt_15 : dz b_TL_debt 15 (.iload_n 2) 1 16 := ⟨by decide +kernel, rfl⟩
theorem d_TL_debt_16 : dz b_TL_debt 16 (.invokevirtual 123) 3 19 := ⟨by decide +kernel, rfl⟩
theorem d_TL_debt_19 : dj b_TL_debt 19 (.ifCond .eq) 22 46 := ⟨27, by decide +kernel, rfl, by decide⟩
theorem d_TL_debt_22 : dz b_TL_debt 22 (.iload_n 1) 1 23 := ⟨by decide +kernel, rfl⟩
theorem d_TL_debt_23 : dz b_TL_debt 23 (.iload_n 2) 1 24 := ⟨by decide +kernel, rfl⟩
theorem d_TL_debt_24 : dj b_TL_debt 24 (.if_icmp .eq) 27 46 := ⟨22, by decide +kernel, rfl, by decide⟩
theorem d_TL_debt_27 : dz b_TL_debt 27 (.iload_n 3) 1 28 := ⟨by decide +kernel, rfl⟩
theorem d_TL_debt_28 : dz b_TL_debt 28 (.iconst 5) 1 29 := ⟨by decide +kernel, rfl⟩
theorem d_TL_debt_29 : dz b_TL_debt 29 (.invokestatic 75) 3 32 := ⟨by decide +kernel, rfl⟩
theorem d_TL_debt_32 : dj b_TL_debt 32 (.ifCond .eq) 35 46 := ⟨14, by decide +kernel, rfl, by decide⟩
theorem d_TL_debt_35 : dz b_TL_debt 35 (.iload 5) 2 37 := ⟨by decide +kernel, rfl⟩
theorem d_TL_debt_37 : dz b_TL_debt 37 (.sipush 3600) 3 40 := ⟨by decide +kernel, rfl⟩
theorem d_TL_debt_40 : dz b_TL_debt 40 (.invokestatic 75) 3 43 := ⟨by decide +kernel, rfl⟩
theorem d_TL_debt_43 : dj b_TL_debt 43 (.ifCond .ne) 46 48 := ⟨5, by decide +kernel, rfl, by decide⟩
theorem d_TL_debt_46 : dz b_TL_debt 46 (.iconst (-1)) 1 47 := ⟨by decide +kernel, rfl⟩
theorem d_TL_debt_47 : dz b_TL_debt 47 (.ireturn) 1 48 := ⟨by decide +kernel, rfl⟩
theorem d_TL_debt_48 : dz b_TL_debt 48 (.aload_n 0) 1 49 := ⟨by decide +kernel, rfl⟩
theorem d_TL_debt_49 : dz b_TL_debt 49 (.getfield 60) 3 52 := ⟨by decide +kernel, rfl⟩
theorem d_TL_debt_52 : dz b_TL_debt 52 (.iload_n 1) 1 53 := ⟨by decide +kernel, rfl⟩
theorem d_TL_debt_53 : dz b_TL_debt 53 (.iload_n 2) 1 54 := ⟨by decide +kernel, rfl⟩
theorem d_TL_debt_54 : dz b_TL_debt 54 (.iload_n 3) 1 55 := ⟨by decide +kernel, rfl⟩
theorem d_TL_debt_55 : dz b_TL_debt 55 (.iload 4) 2 57 := ⟨by decide +kernel, rfl⟩
theorem d_TL_debt_57 : dz b_TL_debt 57 (.iload 5) 2 59 := ⟨by decide +kernel, rfl⟩
theorem d_TL_debt_59 : dz b_TL_debt 59 (.invokevirtual 152) 3 62 := ⟨by decide +kernel, rfl⟩
theorem d_TL_debt_62 : dz b_TL_debt 62 (.ireturn) 1 63 := ⟨by decide +kernel, rfl⟩
theorem d_TL_pay_0 : dz b_TL_pay 0 (.iload_n 2) 1 1 := ⟨by decide +kernel, rfl⟩
theorem d_TL_pay_1 : dz b_TL_pay 1 (.sipush 3600) 3 4 := ⟨by decide +kernel, rfl⟩
theorem d_TL_pay_4 : dz b_TL_pay 4 (.invokestatic 75) 3 7 := ⟨by decide +kernel, rfl⟩
theorem d_TL_pay_7 : dj b_TL_pay 7 (.ifCond .eq) 10 26 := ⟨19, by decide +kernel, rfl, by decide⟩
theorem d_TL_pay_10 : dz b_TL_pay 10 (.aload_n 0) 1 11 := ⟨by decide +kernel, rfl⟩
theorem d_TL_pay_11 : dz b_TL_pay 11 (.getfield 60) 3 14 := ⟨by decide +kernel, rfl⟩
theorem d_TL_pay_14 : dz b_TL_pay 14 (.iload_n 1) 1 15 := ⟨by decide +kernel, rfl⟩
theorem d_TL_pay_15 : dz b_TL_pay 15 (.iload_n 2) 1 16 := ⟨by decide +kernel, rfl⟩
theorem d_TL_pay_16 : dz b_TL_pay 16 (.invokevirtual 155) 3 19 := ⟨by decide +kernel, rfl⟩
theorem d_TL_pay_19 : dj b_TL_pay 19 (.ifCond .eq) 22 26 := ⟨7, by decide +kernel, rfl, by decide⟩
theorem d_TL_pay_22 : dz b_TL_pay 22 (.iconst 1) 1 23 := ⟨by decide +kernel, rfl⟩
theorem d_TL_pay_23 : dj b_TL_pay 23 (.goto) 26 27 := ⟨4, by decide +kernel, rfl, by decide⟩
theorem d_TL_pay_26 : dz b_TL_pay 26 (.iconst 0) 1 27 := ⟨by decide +kernel, rfl⟩
theorem d_TL_pay_27 : dz b_TL_pay 27 (.ireturn) 1 28 := ⟨by decide +kernel, rfl⟩
theorem d_TL_balance_0 : dz b_TL_balance 0 (.aload_n 0) 1 1 := ⟨by decide +kernel, rfl⟩
theorem d_TL_balance_1 : dz b_TL_balance 1 (.getfield 10) 3 4 := ⟨by decide +kernel, rfl⟩
theorem d_TL_balance_4 : dz b_TL_balance 4 (.iload_n 1) 1 5 := ⟨by decide +kernel, rfl⟩
theorem d_TL_balance_5 : dz b_TL_balance 5 (.invokevirtual 123) 3 8 := ⟨by decide +kernel, rfl⟩
theorem d_TL_balance_8 : dj b_TL_balance 8 (.ifCond .eq) 11 21 := ⟨13, by decide +kernel, rfl, by decide⟩
theorem d_TL_balance_11 : dz b_TL_balance 11 (.iload_n 2) 1 12 := ⟨by decide +kernel, rfl⟩
theorem d_TL_balance_12 : dz b_TL_balance 12 (.sipush 3600) 3 15 := ⟨by decide +kernel, rfl⟩
theorem d_TL_balance_15 : dz b_TL_balance 15 (.invokestatic 75) 3 18 := ⟨by decide +kernel, rfl⟩
theorem d_TL_balance_18 : dj b_TL_balance 18 (.ifCond .ne) 21 24 := ⟨6, by decide +kernel, rfl, by decide⟩
theorem d_TL_balance_21 : dz b_TL_balance 21 (.ldc 158) 2 23 := ⟨by decide +kernel, rfl⟩
theorem d_TL_balance_23 : dz b_TL_balance 23 (.ireturn) 1 24 := ⟨by decide +kernel, rfl⟩
theorem d_TL_balance_24 : dz b_TL_balance 24 (.aload_n 0) 1 25 := ⟨by decide +kernel, rfl⟩
theorem d_TL_balance_25 : dz b_TL_balance 25 (.getfield 60) 3 28 := ⟨by decide +kernel, rfl⟩
theorem d_TL_balance_28 : dz b_TL_balance 28 (.iload_n 2) 1 29 := ⟨by decide +kernel, rfl⟩
theorem d_TL_balance_29 : dz b_TL_balance 29 (.invokevirtual 159) 3 32 := ⟨by decide +kernel, rfl⟩
theorem d_TL_balance_32 : dz b_TL_balance 32 (.iload_n 1) 1 33 := ⟨by decide +kernel, rfl⟩
theorem d_TL_balance_33 : dz b_TL_balance 33 (.iaload) 1 34 := ⟨by decide +kernel, rfl⟩
theorem d_TL_balance_34 : dz b_TL_balance 34 (.ireturn) 1 35 := ⟨by decide +kernel, rfl⟩
theorem d_TL_fewest_0 : dz b_TL_fewest 0 (.iload_n 1) 1 1 := ⟨by decide +kernel, rfl⟩
theorem d_TL_fewest_1 : dz b_TL_fewest 1 (.sipush 3600) 3 4 := ⟨by decide +kernel, rfl⟩
theorem d_TL_fewest_4 : dz b_TL_fewest 4 (.invokestatic 75) 3 7 := ⟨by decide +kernel, rfl⟩
theorem d_TL_fewest_7 : dj b_TL_fewest 7 (.ifCond .ne) 10 12 := ⟨5, by decide +kernel, rfl, by decide⟩
theorem d_TL_fewest_10 : dz b_TL_fewest 10 (.iconst (-1)) 1 11 := ⟨by decide +kernel, rfl⟩
theorem d_TL_fewest_11 : dz b_TL_fewest 11 (.ireturn) 1 12 := ⟨by decide +kernel, rfl⟩
theorem d_TL_fewest_12 : dz b_TL_fewest 12 (.aload_n 0) 1 13 := ⟨by decide +kernel, rfl⟩
theorem d_TL_fewest_13 : dz b_TL_fewest 13 (.getfield 67) 3 16 := ⟨by decide +kernel, rfl⟩
theorem d_TL_fewest_16 : dz b_TL_fewest 16 (.aload_n 0) 1 17 := ⟨by decide +kernel, rfl⟩
theorem d_TL_fewest_17 : dz b_TL_fewest 17 (.getfield 60) 3 20 := ⟨by decide +kernel, rfl⟩
theorem d_TL_fewest_20 : dz b_TL_fewest 20 (.iload_n 1) 1 21 := ⟨by decide +kernel, rfl⟩
theorem d_TL_fewest_21 : dz b_TL_fewest 21 (.invokevirtual 159) 3 24 := ⟨by decide +kernel, rfl⟩
theorem d_TL_fewest_24 : dz b_TL_fewest 24 (.invokevirtual 163) 3 27 := ⟨by decide +kernel, rfl⟩
theorem d_TL_fewest_27 : dz b_TL_fewest 27 (.ireturn) 1 28 := ⟨by decide +kernel, rfl⟩
theorem d_TL_of_0 : dz b_TL_of 0 (.aload_n 0) 1 1 := ⟨by decide +kernel, rfl⟩
theorem d_TL_of_1 : dz b_TL_of 1 (.getfield 10) 3 4 := ⟨by decide +kernel, rfl⟩
theorem d_TL_of_4 : dz b_TL_of 4 (.iload_n 1) 1 5 := ⟨by decide +kernel, rfl⟩
theorem d_TL_of_5 : dz b_TL_of 5 (.invokevirtual 123) 3 8 := ⟨by decide +kernel, rfl⟩
theorem d_TL_of_8 : dj b_TL_of 8 (.ifCond .ne) 11 13 := ⟨5, by decide +kernel, rfl, by decide⟩
theorem d_TL_of_11 : dz b_TL_of 11 (.iconst (-1)) 1 12 := ⟨by decide +kernel, rfl⟩
theorem d_TL_of_12 : dz b_TL_of 12 (.ireturn) 1 13 := ⟨by decide +kernel, rfl⟩
theorem d_TL_of_13 : dz b_TL_of 13 (.iload_n 2) 1 14 := ⟨by decide +kernel, rfl⟩
theorem d_TL_of_14 : dz b_TL_of 14 (.tableswitch 59 0 2 #[26, 36, 46]) 26 40 := ⟨by decide +kernel, rfl⟩
theorem d_TL_of_40 : dz b_TL_of 40 (.aload_n 0) 1 41 := ⟨by decide +kernel, rfl⟩
theorem d_TL_of_41 : dz b_TL_of 41 (.getfield 10) 3 44 := ⟨by decide +kernel, rfl⟩
theorem d_TL_of_44 : dz b_TL_of 44 (.getfield 167) 3 47 := ⟨by decide +kernel, rfl⟩
theorem d_TL_of_47 : dz b_TL_of 47 (.iload_n 1) 1 48 := ⟨by decide +kernel, rfl⟩
theorem d_TL_of_48 : dz b_TL_of 48 (.iaload) 1 49 := ⟨by decide +kernel, rfl⟩
theorem d_TL_of_49 : dz b_TL_of 49 (.ireturn) 1 50 := ⟨by decide +kernel, rfl⟩
theorem d_TL_of_50 : dz b_TL_of 50 (.aload_n 0) 1 51 := ⟨by decide +kernel, rfl⟩
theorem d_TL_of_51 : dz b_TL_of 51 (.getfield 10) 3 54 := ⟨by decide +kernel, rfl⟩
theorem d_TL_of_54 : dz b_TL_of 54 (.getfield 171) 3 57 := ⟨by decide +kernel, rfl⟩
theorem d_TL_of_57 : dz b_TL_of 57 (.iload_n 1) 1 58 := ⟨by decide +kernel, rfl⟩
theorem d_TL_of_58 : dz b_TL_of 58 (.iaload) 1 59 := ⟨by decide +kernel, rfl⟩
theorem d_TL_of_59 : dz b_TL_of 59 (.ireturn) 1 60 := ⟨by decide +kernel, rfl⟩
theorem d_TL_of_60 : dz b_TL_of 60 (.aload_n 0) 1 61 := ⟨by decide +kernel, rfl⟩
theorem d_TL_of_61 : dz b_TL_of 61 (.getfield 10) 3 64 := ⟨by decide +kernel, rfl⟩
theorem d_TL_of_64 : dz b_TL_of 64 (.getfield 174) 3 67 := ⟨by decide +kernel, rfl⟩
theorem d_TL_of_67 : dz b_TL_of 67 (.iload_n 1) 1 68 := ⟨by decide +kernel, rfl⟩
theorem d_TL_of_68 : dz b_TL_of 68 (.laload) 1 69 := ⟨by decide +kernel, rfl⟩
theorem d_TL_of_69 : dz b_TL_of 69 (.invokestatic 178) 3 72 := ⟨by decide +kernel, rfl⟩
theorem d_TL_of_72 : dz b_TL_of 72 (.ireturn) 1 73 := ⟨by decide +kernel, rfl⟩
theorem d_TL_of_73 : dz b_TL_of 73 (.iconst (-1)) 1 74 := ⟨by decide +kernel, rfl⟩
theorem d_TL_of_74 : dz b_TL_of 74 (.ireturn) 1 75 := ⟨by decide +kernel, rfl⟩
theorem d_TL_about_0 : dz b_TL_about 0 (.iload_n 1) 1 1 := ⟨by decide +kernel, rfl⟩
theorem d_TL_about_1 : dz b_TL_about 1 (.tableswitch 84 0 5 #[39, 47, 55, 60, 68, 76]) 39 40 := ⟨by decide +kernel, rfl⟩
theorem d_TL_about_40 : dz b_TL_about 40 (.aload_n 0) 1 41 := ⟨by decide +kernel, rfl⟩
theorem d_TL_about_41 : dz b_TL_about 41 (.getfield 10) 3 44 := ⟨by decide +kernel, rfl⟩
theorem d_TL_about_44 : dz b_TL_about 44 (.getfield 182) 3 47 := ⟨by decide +kernel, rfl⟩
theorem d_TL_about_47 : dz b_TL_about 47 (.ireturn) 1 48 := ⟨by decide +kernel, rfl⟩
theorem d_TL_about_48 : dz b_TL_about 48 (.aload_n 0) 1 49 := ⟨by decide +kernel, rfl⟩
theorem d_TL_about_49 : dz b_TL_about 49 (.getfield 35) 3 52 := ⟨by decide +kernel, rfl⟩
theorem d_TL_about_52 : dz b_TL_about 52 (.invokevirtual 185) 3 55 := ⟨by decide +kernel, rfl⟩
theorem d_TL_about_55 : dz b_TL_about 55 (.ireturn) 1 56 := ⟨by decide +kernel, rfl⟩
theorem d_TL_about_56 : dz b_TL_about 56 (.aload_n 0) 1 57 := ⟨by decide +kernel, rfl⟩
theorem d_TL_about_57 : dz b_TL_about 57 (.getfield 71) 3 60 := ⟨by decide +kernel, rfl⟩
theorem d_TL_about_60 : dz b_TL_about 60 (.ireturn) 1 61 := ⟨by decide +kernel, rfl⟩
theorem d_TL_about_61 : dz b_TL_about 61 (.aload_n 0) 1 62 := ⟨by decide +kernel, rfl⟩
theorem d_TL_about_62 : dz b_TL_about 62 (.getfield 53) 3 65 := ⟨by decide +kernel, rfl⟩
theorem d_TL_about_65 : dz b_TL_about 65 (.getfield 188) 3 68 := ⟨by decide +kernel, rfl⟩
theorem d_TL_about_68 : dz b_TL_about 68 (.ireturn) 1 69 := ⟨by decide +kernel, rfl⟩
theorem d_TL_about_69 : dz b_TL_about 69 (.aload_n 0) 1 70 := ⟨by decide +kernel, rfl⟩
theorem d_TL_about_70 : dz b_TL_about 70 (.getfield 60) 3 73 := ⟨by decide +kernel, rfl⟩
theorem d_TL_about_73 : dz b_TL_about 73 (.getfield 189) 3 76 := ⟨by decide +kernel, rfl⟩
theorem d_TL_about_76 : dz b_TL_about 76 (.ireturn) 1 77 := ⟨by decide +kernel, rfl⟩
theorem d_TL_about_77 : dz b_TL_about 77 (.aload_n 0) 1 78 := ⟨by decide +kernel, rfl⟩
theorem d_TL_about_78 : dz b_TL_about 78 (.getfield 19) 3 81 := ⟨by decide +kernel, rfl⟩
theorem d_TL_about_81 : dz b_TL_about 81 (.getfield 91) 3 84 := ⟨by decide +kernel, rfl⟩
theorem d_TL_about_84 : dz b_TL_about 84 (.ireturn) 1 85 := ⟨by decide +kernel, rfl⟩
theorem d_TL_about_85 : dz b_TL_about 85 (.iload_n 1) 1 86 := ⟨by decide +kernel, rfl⟩
theorem d_TL_about_86 : dz b_TL_about 86 (.bipush 10) 2 88 := ⟨by decide +kernel, rfl⟩
theorem d_TL_about_88 : dj b_TL_about 88 (.if_icmp .ge) 91 95 := ⟨7, by decide +kernel, rfl, by decide⟩
theorem d_TL_about_91 : dz b_TL_about 91 (.iconst (-1)) 1 92 := ⟨by decide +kernel, rfl⟩
theorem d_TL_about_92 : dj b_TL_about 92 (.goto) 95 106 := ⟨14, by decide +kernel, rfl, by decide⟩
theorem d_TL_about_95 : dz b_TL_about 95 (.aload_n 0) 1 96 := ⟨by decide +kernel, rfl⟩
theorem d_TL_about_96 : dz b_TL_about 96 (.getfield 35) 3 99 := ⟨by decide +kernel, rfl⟩
theorem d_TL_about_99 : dz b_TL_about 99 (.iload_n 1) 1 100 := ⟨by decide +kernel, rfl⟩
theorem d_TL_about_100 : dz b_TL_about 100 (.bipush 10) 2 102 := ⟨by decide +kernel, rfl⟩
theorem d_TL_about_102 : dz b_TL_about 102 (.isub) 1 103 := ⟨by decide +kernel, rfl⟩
theorem d_TL_about_103 : dz b_TL_about 103 (.invokevirtual 190) 3 106 := ⟨by decide +kernel, rfl⟩
theorem d_TL_about_106 : dz b_TL_about 106 (.ireturn) 1 107 := ⟨by decide +kernel, rfl⟩
theorem d_TL_isBelow_0 : dz b_TL_isBelow 0 (.iload_n 0) 1 1 := ⟨by decide +kernel, rfl⟩
theorem d_TL_isBelow_1 : dj b_TL_isBelow 1 (.ifCond .lt) 4 13 := ⟨12, by decide +kernel, rfl, by decide⟩
theorem d_TL_isBelow_4 : dz b_TL_isBelow 4 (.iload_n 0) 1 5 := ⟨by decide +kernel, rfl⟩
theorem d_TL_isBelow_5 : dz b_TL_isBelow 5 (.iload_n 1) 1 6 := ⟨by decide +kernel, rfl⟩
theorem d_TL_isBelow_6 : dj b_TL_isBelow 6 (.if_icmp .ge) 9 13 := ⟨7, by decide +kernel, rfl, by decide⟩
theorem d_TL_isBelow_9 : dz b_TL_isBelow 9 (.iconst 1) 1 10 := ⟨by decide +kernel, rfl⟩
theorem d_TL_isBelow_10 : dj b_TL_isBelow 10 (.goto) 13 14 := ⟨4, by decide +kernel, rfl, by decide⟩
theorem d_TL_isBelow_13 : dz b_TL_isBelow 13 (.iconst 0) 1 14 := ⟨by decide +kernel, rfl⟩
theorem d_TL_isBelow_14 : dz b_TL_isBelow 14 (.ireturn) 1 15 := ⟨by decide +kernel, rfl⟩
theorem d_TL_isLetter_0 : dz b_TL_isLetter 0 (.iload_n 0) 1 1 := ⟨by decide +kernel, rfl⟩
theorem d_TL_isLetter_1 : dz b_TL_isLetter 1 (.bipush 97) 2 3 := ⟨by decide +kernel, rfl⟩
theorem d_TL_isLetter_3 : dj b_TL_isLetter 3 (.if_icmp .lt) 6 16 := ⟨13, by decide +kernel, rfl, by decide⟩
theorem d_TL_isLetter_6 : dz b_TL_isLetter 6 (.iload_n 0) 1 7 := ⟨by decide +kernel, rfl⟩
theorem d_TL_isLetter_7 : dz b_TL_isLetter 7 (.bipush 122) 2 9 := ⟨by decide +kernel, rfl⟩
theorem d_TL_isLetter_9 : dj b_TL_isLetter 9 (.if_icmp .gt) 12 16 := ⟨7, by decide +kernel, rfl, by decide⟩
theorem d_TL_isLetter_12 : dz b_TL_isLetter 12 (.iconst 1) 1 13 := ⟨by decide +kernel, rfl⟩
theorem d_TL_isLetter_13 : dj b_TL_isLetter 13 (.goto) 16 17 := ⟨4, by decide +kernel, rfl, by decide⟩
theorem d_TL_isLetter_16 : dz b_TL_isLetter 16 (.iconst 0) 1 17 := ⟨by decide +kernel, rfl⟩
theorem d_TL_isLetter_17 : dz b_TL_isLetter 17 (.ireturn) 1 18 := ⟨by decide +kernel, rfl⟩
theorem d_TL_isDigit_0 : dz b_TL_isDigit 0 (.iload_n 0) 1 1 := ⟨by decide +kernel, rfl⟩
theorem d_TL_isDigit_1 : dz b_TL_isDigit 1 (.bipush 48) 2 3 := ⟨by decide +kernel, rfl⟩
theorem d_TL_isDigit_3 : dj b_TL_isDigit 3 (.if_icmp .lt) 6 16 := ⟨13, by decide +kernel, rfl, by decide⟩
theorem d_TL_isDigit_6 : dz b_TL_isDigit 6 (.iload_n 0) 1 7 := ⟨by decide +kernel, rfl⟩
theorem d_TL_isDigit_7 : dz b_TL_isDigit 7 (.bipush 57) 2 9 := ⟨by decide +kernel, rfl⟩
theorem d_TL_isDigit_9 : dj b_TL_isDigit 9 (.if_icmp .gt) 12 16 := ⟨7, by decide +kernel, rfl, by decide⟩
theorem d_TL_isDigit_12 : dz b_TL_isDigit 12 (.iconst 1) 1 13 := ⟨by decide +kernel, rfl⟩
theorem d_TL_isDigit_13 : dj b_TL_isDigit 13 (.goto) 16 17 := ⟨4, by decide +kernel, rfl, by decide⟩
theorem d_TL_isDigit_16 : dz b_TL_isDigit 16 (.iconst 0) 1 17 := ⟨by decide +kernel, rfl⟩
theorem d_TL_isDigit_17 : dz b_TL_isDigit 17 (.ireturn) 1 18 := ⟨by decide +kernel, rfl⟩
theorem d_TL_lettersOf_0 : dz b_TL_lettersOf 0 (.iconst 0) 1 1 := ⟨by decide +kernel, rfl⟩
theorem d_TL_lettersOf_1 : dz b_TL_lettersOf 1 (.istore_n 2) 1 2 := ⟨by decide +kernel, rfl⟩
theorem d_TL_lettersOf_2 : dz b_TL_lettersOf 2 (.bipush 56) 2 4 := ⟨by decide +kernel, rfl⟩
theorem d_TL_lettersOf_4 : dz b_TL_lettersOf 4 (.istore_n 3) 1 5 := ⟨by decide +kernel, rfl⟩
theorem d_TL_lettersOf_5 : dz b_TL_lettersOf 5 (.iload_n 3) 1 6 := ⟨by decide +kernel, rfl⟩
theorem d_TL_lettersOf_6 : dj b_TL_lettersOf 6 (.ifCond .lt) 9 50 := ⟨44, by decide +kernel, rfl, by decide⟩
theorem d_TL_lettersOf_9 : dz b_TL_lettersOf 9 (.lload_n 0) 1 10 := ⟨by decide +kernel, rfl⟩
theorem d_TL_lettersOf_10 : dz b_TL_lettersOf 10 (.iload_n 3) 1 11 := ⟨by decide +kernel, rfl⟩
theorem d_TL_lettersOf_11 : dz b_TL_lettersOf 11 (.lushr) 1 12 := ⟨by decide +kernel, rfl⟩
theorem d_TL_lettersOf_12 : dz b_TL_lettersOf 12 (.l2i) 1 13 := ⟨by decide +kernel, rfl⟩
theorem d_TL_lettersOf_13 : dz b_TL_lettersOf 13 (.sipush 255) 3 16 := ⟨by decide +kernel, rfl⟩
theorem d_TL_lettersOf_16 : dz b_TL_lettersOf 16 (.iand) 1 17 := ⟨by decide +kernel, rfl⟩
theorem d_TL_lettersOf_17 : dz b_TL_lettersOf 17 (.istore 4) 2 19 := ⟨by decide +kernel, rfl⟩
theorem d_TL_lettersOf_19 : dz b_TL_lettersOf 19 (.iload 4) 2 21 := ⟨by decide +kernel, rfl⟩
theorem d_TL_lettersOf_21 : dj b_TL_lettersOf 21 (.ifCond .ne) 24 31 := ⟨10, by decide +kernel, rfl, by decide⟩
theorem d_TL_lettersOf_24 : dz b_TL_lettersOf 24 (.iload_n 2) 1 25 := ⟨by decide +kernel, rfl⟩
theorem d_TL_lettersOf_25 : dj b_TL_lettersOf 25 (.ifCond .ne) 28 31 := ⟨6, by decide +kernel, rfl, by decide⟩
theorem d_TL_lettersOf_28 : dj b_TL_lettersOf 28 (.goto) 31 44 := ⟨16, by decide +kernel, rfl, by decide⟩
theorem d_TL_lettersOf_31 : dz b_TL_lettersOf 31 (.iload 4) 2 33 := ⟨by decide +kernel, rfl⟩
theorem d_TL_lettersOf_33 : dz b_TL_lettersOf 33 (.invokestatic 194) 3 36 := ⟨by decide +kernel, rfl⟩
theorem d_TL_lettersOf_36 : dj b_TL_lettersOf 36 (.ifCond .ne) 39 41 := ⟨5, by decide +kernel, rfl, by decide⟩
theorem d_TL_lettersOf_39 : dz b_TL_lettersOf 39 (.iconst 0) 1 40 := ⟨by decide +kernel, rfl⟩
theorem d_TL_lettersOf_40 : dz b_TL_lettersOf 40 (.ireturn) 1 41 := ⟨by decide +kernel, rfl⟩
theorem d_TL_lettersOf_41 : dz b_TL_lettersOf 41 (.iinc 2 1) 3 44 := ⟨by decide +kernel, rfl⟩
theorem d_TL_lettersOf_44 : dz b_TL_lettersOf 44 (.iinc 3 (-8)) 3 47 := ⟨by decide +kernel, rfl⟩
theorem d_TL_lettersOf_47 : dj b_TL_lettersOf 47 (.goto) 50 5 := ⟨(-42), by decide +kernel, rfl, by decide⟩
theorem d_TL_lettersOf_50 : dz b_TL_lettersOf 50 (.iload_n 2) 1 51 := ⟨by decide +kernel, rfl⟩
theorem d_TL_lettersOf_51 : dz b_TL_lettersOf 51 (.ireturn) 1 52 := ⟨by decide +kernel, rfl⟩
theorem d_TL_reasonOf_0 : dz b_TL_reasonOf 0 (.lload_n 0) 1 1 := ⟨by decide +kernel, rfl⟩
theorem d_TL_reasonOf_1 : dz b_TL_reasonOf 1 (.ldc2_w 197) 3 4 := ⟨by decide +kernel, rfl⟩
theorem d_TL_reasonOf_4 : dz b_TL_reasonOf 4 (.lcmp) 1 5 := ⟨by decide +kernel, rfl⟩
theorem d_TL_reasonOf_5 : dj b_TL_reasonOf 5 (.ifCond .ne) 8 10 := ⟨5, by decide +kernel, rfl, by decide⟩
theorem d_TL_reasonOf_8 : dz b_TL_reasonOf 8 (.iconst 1) 1 9 := ⟨by decide +kernel, rfl⟩
theorem d_TL_reasonOf_9 : dz b_TL_reasonOf 9 (.ireturn) 1 10 := ⟨by decide +kernel, rfl⟩
theorem d_TL_reasonOf_10 : dz b_TL_reasonOf 10 (.lload_n 0) 1 11 := ⟨by decide +kernel, rfl⟩
theorem d_TL_reasonOf_11 : dz b_TL_reasonOf 11 (.ldc2_w 199) 3 14 := ⟨by decide +kernel, rfl⟩
theorem d_TL_reasonOf_14 : dz b_TL_reasonOf 14 (.lcmp) 1 15 := ⟨by decide +kernel, rfl⟩
theorem d_TL_reasonOf_15 : dj b_TL_reasonOf 15 (.ifCond .ne) 18 20 := ⟨5, by decide +kernel, rfl, by decide⟩
theorem d_TL_reasonOf_18 : dz b_TL_reasonOf 18 (.iconst 2) 1 19 := ⟨by decide +kernel, rfl⟩
theorem d_TL_reasonOf_19 : dz b_TL_reasonOf 19 (.ireturn) 1 20 := ⟨by decide +kernel, rfl⟩
theorem d_TL_reasonOf_20 : dz b_TL_reasonOf 20 (.lload_n 0) 1 21 := ⟨by decide +kernel, rfl⟩
theorem d_TL_reasonOf_21 : dz b_TL_reasonOf 21 (.ldc2_w 201) 3 24 := ⟨by decide +kernel, rfl⟩
theorem d_TL_reasonOf_24 : dz b_TL_reasonOf 24 (.lcmp) 1 25 := ⟨by decide +kernel, rfl⟩
theorem d_TL_reasonOf_25 : dj b_TL_reasonOf 25 (.ifCond .ne) 28 30 := ⟨5, by decide +kernel, rfl, by decide⟩
theorem d_TL_reasonOf_28 : dz b_TL_reasonOf 28 (.iconst 3) 1 29 := ⟨by decide +kernel, rfl⟩
theorem d_TL_reasonOf_29 : dz b_TL_reasonOf 29 (.ireturn) 1 30 := ⟨by decide +kernel, rfl⟩
theorem d_TL_reasonOf_30 : dz b_TL_reasonOf 30 (.lload_n 0) 1 31 := ⟨by decide +kernel, rfl⟩
theorem d_TL_reasonOf_31 : dz b_TL_reasonOf 31 (.ldc2_w 203) 3 34 := ⟨by decide +kernel, rfl⟩
theorem d_TL_reasonOf_34 : dz b_TL_reasonOf 34 (.lcmp) 1 35 := ⟨by decide +kernel, rfl⟩
theorem d_TL_reasonOf_35 : dj b_TL_reasonOf 35 (.ifCond .ne) 38 40 := ⟨5, by decide +kernel, rfl, by decide⟩
theorem d_TL_reasonOf_38 : dz b_TL_reasonOf 38 (.iconst 4) 1 39 := ⟨by decide +kernel, rfl⟩
theorem d_TL_reasonOf_39 : dz b_TL_reasonOf 39 (.ireturn) 1 40 := ⟨by decide +kernel, rfl⟩
theorem d_TL_reasonOf_40 : dz b_TL_reasonOf 40 (.lload_n 0) 1 41 := ⟨by decide +kernel, rfl⟩
theorem d_TL_reasonOf_41 : dz b_TL_reasonOf 41 (.ldc2_w 205) 3 44 := ⟨by decide +kernel, rfl⟩
theorem d_TL_reasonOf_44 : dz b_TL_reasonOf 44 (.lcmp) 1 45 := ⟨by decide +kernel, rfl⟩
theorem d_TL_reasonOf_45 : dj b_TL_reasonOf 45 (.ifCond .ne) 48 52 := ⟨7, by decide +kernel, rfl, by decide⟩
theorem d_TL_reasonOf_48 : dz b_TL_reasonOf 48 (.iconst 5) 1 49 := ⟨by decide +kernel, rfl⟩
theorem d_TL_reasonOf_49 : dj b_TL_reasonOf 49 (.goto) 52 53 := ⟨4, by decide +kernel, rfl, by decide⟩
theorem d_TL_reasonOf_52 : dz b_TL_reasonOf 52 (.iconst (-1)) 1 53 := ⟨by decide +kernel, rfl⟩
theorem d_TL_reasonOf_53 : dz b_TL_reasonOf 53 (.ireturn) 1 54 := ⟨by decide +kernel, rfl⟩
theorem d_TL_sideOf_0 : dz b_TL_sideOf 0 (.lload_n 0) 1 1 := ⟨by decide +kernel, rfl⟩
theorem d_TL_sideOf_1 : dz b_TL_sideOf 1 (.ldc2_w 207) 3 4 := ⟨by decide +kernel, rfl⟩
theorem d_TL_sideOf_4 : dz b_TL_sideOf 4 (.lcmp) 1 5 := ⟨by decide +kernel, rfl⟩
theorem d_TL_sideOf_5 : dj b_TL_sideOf 5 (.ifCond .ne) 8 10 := ⟨5, by decide +kernel, rfl, by decide⟩
theorem d_TL_sideOf_8 : dz b_TL_sideOf 8 (.iconst 0) 1 9 := ⟨by decide +kernel, rfl⟩
theorem d_TL_sideOf_9 : dz b_TL_sideOf 9 (.ireturn) 1 10 := ⟨by decide +kernel, rfl⟩
end
section
theorem d_TL_sideOf_10 : dz b_TL_sideOf 10 (.lload_n 0) 1 11 := ⟨by decide +kernel, rfl⟩
theorem d_TL_sideOf_11 : dz b_TL_sideOf 11 (.ldc2_w 209) 3 14 := ⟨by decide +kernel, rfl⟩
theorem d_TL_sideOf_14 : dz b_TL_sideOf 14 (.lcmp) 1 15 := ⟨by decide +kernel, rfl⟩
theorem d_TL_sideOf_15 : dj b_TL_sideOf 15 (.ifCond .ne) 18 22 := ⟨7, by decide +kernel, rfl, by decide⟩
theorem d_TL_sideOf_18 : dz b_TL_sideOf 18 (.iconst 1) 1 19 := ⟨by decide +kernel, rfl⟩
theorem d_TL_sideOf_19 : dj b_TL_sideOf 19 (.goto) 22 23 := ⟨4, by decide +kernel, rfl, by decide⟩
theorem d_TL_sideOf_22 : dz b_TL_sideOf 22 (.iconst (-1)) 1 23 := ⟨by decide +kernel, rfl⟩
theorem d_TL_sideOf_23 : dz b_TL_sideOf 23 (.ireturn) 1 24 := ⟨by decide +kernel, rfl⟩
theorem d_TL_isFree_0 : dz b_TL_isFree 0 (.lload_n 0) 1 1 := ⟨by decide +kernel, rfl⟩
theorem d_TL_isFree_1 : dz b_TL_isFree 1 (.ldc2_w 211) 3 4 := ⟨by decide +kernel, rfl⟩
theorem d_TL_isFree_4 : dz b_TL_isFree 4 (.lcmp) 1 5 := ⟨by decide +kernel, rfl⟩
theorem d_TL_isFree_5 : dj b_TL_isFree 5 (.ifCond .eq) 8 36 := ⟨31, by decide +kernel, rfl, by decide⟩
theorem d_TL_isFree_8 : dz b_TL_isFree 8 (.lload_n 0) 1 9 := ⟨by decide +kernel, rfl⟩
theorem d_TL_isFree_9 : dz b_TL_isFree 9 (.ldc2_w 213) 3 12 := ⟨by decide +kernel, rfl⟩
theorem d_TL_isFree_12 : dz b_TL_isFree 12 (.lcmp) 1 13 := ⟨by decide +kernel, rfl⟩
theorem d_TL_isFree_13 : dj b_TL_isFree 13 (.ifCond .eq) 16 36 := ⟨23, by decide +kernel, rfl, by decide⟩
theorem d_TL_isFree_16 : dz b_TL_isFree 16 (.lload_n 0) 1 17 := ⟨by decide +kernel, rfl⟩
theorem d_TL_isFree_17 : dz b_TL_isFree 17 (.invokestatic 215) 3 20 := ⟨by decide +kernel, rfl⟩
theorem d_TL_isFree_20 : dz b_TL_isFree 20 (.iconst (-1)) 1 21 := ⟨by decide +kernel, rfl⟩
theorem d_TL_isFree_21 : dj b_TL_isFree 21 (.if_icmp .ne) 24 36 := ⟨15, by decide +kernel, rfl, by decide⟩
theorem d_TL_isFree_24 : dz b_TL_isFree 24 (.lload_n 0) 1 25 := ⟨by decide +kernel, rfl⟩
theorem d_TL_isFree_25 : dz b_TL_isFree 25 (.invokestatic 218) 3 28 := ⟨by decide +kernel, rfl⟩
theorem d_TL_isFree_28 : dz b_TL_isFree 28 (.iconst (-1)) 1 29 := ⟨by decide +kernel, rfl⟩
theorem d_TL_isFree_29 : dj b_TL_isFree 29 (.if_icmp .ne) 32 36 := ⟨7, by decide +kernel, rfl, by decide⟩
theorem d_TL_isFree_32 : dz b_TL_isFree 32 (.iconst 1) 1 33 := ⟨by decide +kernel, rfl⟩
theorem d_TL_isFree_33 : dj b_TL_isFree 33 (.goto) 36 37 := ⟨4, by decide +kernel, rfl, by decide⟩
theorem d_TL_isFree_36 : dz b_TL_isFree 36 (.iconst 0) 1 37 := ⟨by decide +kernel, rfl⟩
theorem d_TL_isFree_37 : dz b_TL_isFree 37 (.ireturn) 1 38 := ⟨by decide +kernel, rfl⟩
theorem d_Ma_max_0 : dz b_Ma_max 0 (.iload_n 0) 1 1 := ⟨by decide +kernel, rfl⟩
theorem d_Ma_max_1 : dz b_Ma_max 1 (.iload_n 1) 1 2 := ⟨by decide +kernel, rfl⟩
theorem d_Ma_max_2 : dj b_Ma_max 2 (.if_icmp .lt) 5 9 := ⟨7, by decide +kernel, rfl, by decide⟩
theorem d_Ma_max_5 : dz b_Ma_max 5 (.iload_n 0) 1 6 := ⟨by decide +kernel, rfl⟩
theorem d_Ma_max_6 : dj b_Ma_max 6 (.goto) 9 10 := ⟨4, by decide +kernel, rfl, by decide⟩
theorem d_Ma_max_9 : dz b_Ma_max 9 (.iload_n 1) 1 10 := ⟨by decide +kernel, rfl⟩
theorem d_Ma_max_10 : dz b_Ma_max 10 (.ireturn) 1 11 := ⟨by decide +kernel, rfl⟩
theorem d_Ma_min_0 : dz b_Ma_min 0 (.iload_n 0) 1 1 := ⟨by decide +kernel, rfl⟩
theorem d_Ma_min_1 : dz b_Ma_min 1 (.iload_n 1) 1 2 := ⟨by decide +kernel, rfl⟩
theorem d_Ma_min_2 : dj b_Ma_min 2 (.if_icmp .gt) 5 9 := ⟨7, by decide +kernel, rfl, by decide⟩
theorem d_Ma_min_5 : dz b_Ma_min 5 (.iload_n 0) 1 6 := ⟨by decide +kernel, rfl⟩
theorem d_Ma_min_6 : dj b_Ma_min 6 (.goto) 9 10 := ⟨4, by decide +kernel, rfl, by decide⟩
theorem d_Ma_min_9 : dz b_Ma_min 9 (.iload_n 1) 1 10 := ⟨by decide +kernel, rfl⟩
theorem d_Ma_min_10 : dz b_Ma_min 10 (.ireturn) 1 11 := ⟨by decide +kernel, rfl⟩
theorem d_AbC_init_0 : dz b_AbC_init 0 (.aload_n 0) 1 1 := ⟨by decide +kernel, rfl⟩
theorem d_AbC_init_1 : dz b_AbC_init 1 (.invokespecial 1) 3 4 := ⟨by decide +kernel, rfl⟩
theorem d_AbC_init_4 : dz b_AbC_init 4 (.return_) 1 5 := ⟨by decide +kernel, rfl⟩
theorem d_AbL_init_0 : dz b_AbL_init 0 (.aload_n 0) 1 1 := ⟨by decide +kernel, rfl⟩
theorem d_AbL_init_1 : dz b_AbL_init 1 (.invokespecial 1) 3 4 := ⟨by decide +kernel, rfl⟩
theorem d_AbL_init_4 : dz b_AbL_init 4 (.aload_n 0) 1 5 := ⟨by decide +kernel, rfl⟩
theorem d_AbL_init_5 : dz b_AbL_init 5 (.iconst 0) 1 6 := ⟨by decide +kernel, rfl⟩
theorem d_AbL_init_6 : dz b_AbL_init 6 (.putfield 7) 3 9 := ⟨by decide +kernel, rfl⟩
theorem d_AbL_init_9 : dz b_AbL_init 9 (.return_) 1 10 := ⟨by decide +kernel, rfl⟩
theorem d_AL_init_0 : dz b_AL_init 0 (.aload_n 0) 1 1 := ⟨by decide +kernel, rfl⟩
theorem d_AL_init_1 : dz b_AL_init 1 (.invokespecial 1) 3 4 := ⟨by decide +kernel, rfl⟩
theorem d_AL_init_4 : dz b_AL_init 4 (.aload_n 0) 1 5 := ⟨by decide +kernel, rfl⟩
theorem d_AL_init_5 : dz b_AL_init 5 (.getstatic 39) 3 8 := ⟨by decide +kernel, rfl⟩
theorem d_AL_init_8 : dz b_AL_init 8 (.putfield 9) 3 11 := ⟨by decide +kernel, rfl⟩
theorem d_AL_init_11 : dz b_AL_init 11 (.return_) 1 12 := ⟨by decide +kernel, rfl⟩
theorem d_AL_grow1_0 : dz b_AL_grow1 0 (.aload_n 0) 1 1 := ⟨by decide +kernel, rfl⟩
theorem d_AL_grow1_1 : dz b_AL_grow1 1 (.getfield 9) 3 4 := ⟨by decide +kernel, rfl⟩
theorem d_AL_grow1_4 : dz b_AL_grow1 4 (.arraylength) 1 5 := ⟨by decide +kernel, rfl⟩
theorem d_AL_grow1_5 : dz b_AL_grow1 5 (.istore_n 2) 1 6 := ⟨by decide +kernel, rfl⟩
theorem d_AL_grow1_6 : dz b_AL_grow1 6 (.iload_n 2) 1 7 := ⟨by decide +kernel, rfl⟩
theorem d_AL_grow1_7 : dj b_AL_grow1 7 (.ifCond .gt) 10 20 := ⟨13, by decide +kernel, rfl, by decide⟩
theorem d_AL_grow1_10 : dz b_AL_grow1 10 (.aload_n 0) 1 11 := ⟨by decide +kernel, rfl⟩
theorem d_AL_grow1_11 : dz b_AL_grow1 11 (.getfield 9) 3 14 := ⟨by decide +kernel, rfl⟩
theorem d_AL_grow1_14 : dz b_AL_grow1 14 (.getstatic 39) 3 17 := ⟨by decide +kernel, rfl⟩
theorem d_AL_grow1_17 : dj b_AL_grow1 17 (.if_acmp .eq) 20 45 := ⟨28, by decide +kernel, rfl, by decide⟩
theorem d_AL_grow1_20 : dz b_AL_grow1 20 (.iload_n 2) 1 21 := ⟨by decide +kernel, rfl⟩
theorem d_AL_grow1_21 : dz b_AL_grow1 21 (.iload_n 1) 1 22 := ⟨by decide +kernel, rfl⟩
theorem d_AL_grow1_22 : dz b_AL_grow1 22 (.iload_n 2) 1 23 := ⟨by decide +kernel, rfl⟩
theorem d_AL_grow1_23 : dz b_AL_grow1 23 (.isub) 1 24 := ⟨by decide +kernel, rfl⟩
theorem d_AL_grow1_24 : dz b_AL_grow1 24 (.iload_n 2) 1 25 := ⟨by decide +kernel, rfl⟩
theorem d_AL_grow1_25 : dz b_AL_grow1 25 (.iconst 1) 1 26 := ⟨by decide +kernel, rfl⟩
theorem d_AL_grow1_26 : dz b_AL_grow1 26 (.ishr) 1 27 := ⟨by decide +kernel, rfl⟩
theorem d_AL_grow1_27 : dz b_AL_grow1 27 (.invokestatic 73) 3 30 := ⟨by decide +kernel, rfl⟩
theorem d_AL_grow1_30 : dz b_AL_grow1 30 (.istore_n 3) 1 31 := ⟨by decide +kernel, rfl⟩
theorem d_AL_grow1_31 : dz b_AL_grow1 31 (.aload_n 0) 1 32 := ⟨by decide +kernel, rfl⟩
theorem d_AL_grow1_32 : dz b_AL_grow1 32 (.aload_n 0) 1 33 := ⟨by decide +kernel, rfl⟩
theorem d_AL_grow1_33 : dz b_AL_grow1 33 (.getfield 9) 3 36 := ⟨by decide +kernel, rfl⟩
theorem d_AL_grow1_36 : dz b_AL_grow1 36 (.iload_n 3) 1 37 := ⟨by decide +kernel, rfl⟩
theorem d_AL_grow1_37 : dz b_AL_grow1 37 (.invokestatic 66) 3 40 := ⟨by decide +kernel, rfl⟩
theorem d_AL_grow1_40 : dz b_AL_grow1 40 (.dup_x1) 1 41 := ⟨by decide +kernel, rfl⟩
theorem d_AL_grow1_41 : dz b_AL_grow1 41 (.putfield 9) 3 44 := ⟨by decide +kernel, rfl⟩
theorem d_AL_grow1_44 : dz b_AL_grow1 44 (.areturn) 1 45 := ⟨by decide +kernel, rfl⟩
theorem d_AL_grow1_45 : dz b_AL_grow1 45 (.aload_n 0) 1 46 := ⟨by decide +kernel, rfl⟩
theorem d_AL_grow1_46 : dz b_AL_grow1 46 (.bipush 10) 2 48 := ⟨by decide +kernel, rfl⟩
theorem d_AL_grow1_48 : dz b_AL_grow1 48 (.iload_n 1) 1 49 := ⟨by decide +kernel, rfl⟩
theorem d_AL_grow1_49 : dz b_AL_grow1 49 (.invokestatic 79) 3 52 := ⟨by decide +kernel, rfl⟩
theorem d_AL_grow1_52 : dz b_AL_grow1 52 (.anewarray 7) 3 55 := ⟨by decide +kernel, rfl⟩
theorem d_AL_grow1_55 : dz b_AL_grow1 55 (.dup_x1) 1 56 := ⟨by decide +kernel, rfl⟩
theorem d_AL_grow1_56 : dz b_AL_grow1 56 (.putfield 9) 3 59 := ⟨by decide +kernel, rfl⟩
theorem d_AL_grow1_59 : dz b_AL_grow1 59 (.areturn) 1 60 := ⟨by decide +kernel, rfl⟩
theorem d_AL_grow0_0 : dz b_AL_grow0 0 (.aload_n 0) 1 1 := ⟨by decide +kernel, rfl⟩
theorem d_AL_grow0_1 : dz b_AL_grow0 1 (.aload_n 0) 1 2 := ⟨by decide +kernel, rfl⟩
theorem d_AL_grow0_2 : dz b_AL_grow0 2 (.getfield 48) 3 5 := ⟨by decide +kernel, rfl⟩
theorem d_AL_grow0_5 : dz b_AL_grow0 5 (.iconst 1) 1 6 := ⟨by decide +kernel, rfl⟩
theorem d_AL_grow0_6 : dz b_AL_grow0 6 (.iadd) 1 7 := ⟨by decide +kernel, rfl⟩
theorem d_AL_grow0_7 : dz b_AL_grow0 7 (.invokevirtual 69) 3 10 := ⟨by decide +kernel, rfl⟩
theorem d_AL_grow0_10 : dz b_AL_grow0 10 (.areturn) 1 11 := ⟨by decide +kernel, rfl⟩
theorem d_AL_size_0 : dz b_AL_size 0 (.aload_n 0) 1 1 := ⟨by decide +kernel, rfl⟩
theorem d_AL_size_1 : dz b_AL_size 1 (.getfield 48) 3 4 := ⟨by decide +kernel, rfl⟩
theorem d_AL_size_4 : dz b_AL_size 4 (.ireturn) 1 5 := ⟨by decide +kernel, rfl⟩
theorem d_AL_elementData_0 : dz b_AL_elementData 0 (.aload_n 0) 1 1 := ⟨by decide +kernel, rfl⟩
theorem d_AL_elementData_1 : dz b_AL_elementData 1 (.getfield 9) 3 4 := ⟨by decide +kernel, rfl⟩
theorem d_AL_elementData_4 : dz b_AL_elementData 4 (.iload_n 1) 1 5 := ⟨by decide +kernel, rfl⟩
theorem d_AL_elementData_5 : dz b_AL_elementData 5 (.aaload) 1 6 := ⟨by decide +kernel, rfl⟩
theorem d_AL_elementData_6 : dz b_AL_elementData 6 (.areturn) 1 7 := ⟨by decide +kernel, rfl⟩
theorem d_AL_get_0 : dz b_AL_get 0 (.iload_n 1) 1 1 := ⟨by decide +kernel, rfl⟩
theorem d_AL_get_1 : dz b_AL_get 1 (.aload_n 0) 1 2 := ⟨by decide +kernel, rfl⟩
theorem d_AL_get_2 : dz b_AL_get 2 (.getfield 48) 3 5 := ⟨by decide +kernel, rfl⟩
theorem d_AL_get_5 : dz b_AL_get 5 (.invokestatic 118) 3 8 := ⟨by decide +kernel, rfl⟩
theorem d_AL_get_8 : dz b_AL_get 8 (.pop) 1 9 := ⟨by decide +kernel, rfl⟩
theorem d_AL_get_9 : dz b_AL_get 9 (.aload_n 0) 1 10 := ⟨by decide +kernel, rfl⟩
theorem d_AL_get_10 : dz b_AL_get 10 (.iload_n 1) 1 11 := ⟨by decide +kernel, rfl⟩
theorem d_AL_get_11 : dz b_AL_get 11 (.invokevirtual 123) 3 14 := ⟨by decide +kernel, rfl⟩
theorem d_AL_get_14 : dz b_AL_get 14 (.areturn) 1 15 := ⟨by decide +kernel, rfl⟩
theorem d_AL_add3_0 : dz b_AL_add3 0 (.iload_n 3) 1 1 := ⟨by decide +kernel, rfl⟩
theorem d_AL_add3_1 : dz b_AL_add3 1 (.aload_n 2) 1 2 := ⟨by decide +kernel, rfl⟩
theorem d_AL_add3_2 : dz b_AL_add3 2 (.arraylength) 1 3 := ⟨by decide +kernel, rfl⟩
theorem d_AL_add3_3 : dj b_AL_add3 3 (.if_icmp .ne) 6 11 := ⟨8, by decide +kernel, rfl, by decide⟩
theorem d_AL_add3_6 : dz b_AL_add3 6 (.aload_n 0) 1 7 := ⟨by decide +kernel, rfl⟩
theorem d_AL_add3_7 : dz b_AL_add3 7 (.invokevirtual 129) 3 10 := ⟨by decide +kernel, rfl⟩
theorem d_AL_add3_10 : dz b_AL_add3 10 (.astore_n 2) 1 11 := ⟨by decide +kernel, rfl⟩
theorem d_AL_add3_11 : dz b_AL_add3 11 (.aload_n 2) 1 12 := ⟨by decide +kernel, rfl⟩
theorem d_AL_add3_12 : dz b_AL_add3 12 (.iload_n 3) 1 13 := ⟨by decide +kernel, rfl⟩
theorem d_AL_add3_13 : dz b_AL_add3 13 (.aload_n 1) 1 14 := ⟨by decide +kernel, rfl⟩
theorem d_AL_add3_14 : dz b_AL_add3 14 (.aastore) 1 15 := ⟨by decide +kernel, rfl⟩
theorem d_AL_add3_15 : dz b_AL_add3 15 (.aload_n 0) 1 16 := ⟨by decide +kernel, rfl⟩
theorem d_AL_add3_16 : dz b_AL_add3 16 (.iload_n 3) 1 17 := ⟨by decide +kernel, rfl⟩
theorem d_AL_add3_17 : dz b_AL_add3 17 (.iconst 1) 1 18 := ⟨by decide +kernel, rfl⟩
theorem d_AL_add3_18 : dz b_AL_add3 18 (.iadd) 1 19 := ⟨by decide +kernel, rfl⟩
theorem d_AL_add3_19 : dz b_AL_add3 19 (.putfield 48) 3 22 := ⟨by decide +kernel, rfl⟩
theorem d_AL_add3_22 : dz b_AL_add3 22 (.return_) 1 23 := ⟨by decide +kernel, rfl⟩
theorem d_AL_add_0 : dz b_AL_add 0 (.aload_n 0) 1 1 := ⟨by decide +kernel, rfl⟩
theorem d_AL_add_1 : dz b_AL_add 1 (.dup) 1 2 := ⟨by decide +kernel, rfl⟩
theorem d_AL_add_2 : dz b_AL_add 2 (.getfield 63) 3 5 := ⟨by decide +kernel, rfl⟩
theorem d_AL_add_5 : dz b_AL_add 5 (.iconst 1) 1 6 := ⟨by decide +kernel, rfl⟩
theorem d_AL_add_6 : dz b_AL_add 6 (.iadd) 1 7 := ⟨by decide +kernel, rfl⟩
theorem d_AL_add_7 : dz b_AL_add 7 (.putfield 63) 3 10 := ⟨by decide +kernel, rfl⟩
theorem d_AL_add_10 : dz b_AL_add 10 (.aload_n 0) 1 11 := ⟨by decide +kernel, rfl⟩
theorem d_AL_add_11 : dz b_AL_add 11 (.aload_n 1) 1 12 := ⟨by decide +kernel, rfl⟩
theorem d_AL_add_12 : dz b_AL_add 12 (.aload_n 0) 1 13 := ⟨by decide +kernel, rfl⟩
theorem d_AL_add_13 : dz b_AL_add 13 (.getfield 9) 3 16 := ⟨by decide +kernel, rfl⟩
theorem d_AL_add_16 : dz b_AL_add 16 (.aload_n 0) 1 17 := ⟨by decide +kernel, rfl⟩
theorem d_AL_add_17 : dz b_AL_add 17 (.getfield 48) 3 20 := ⟨by decide +kernel, rfl⟩
theorem d_AL_add_20 : dz b_AL_add 20 (.invokevirtual 131) 3 23 := ⟨by decide +kernel, rfl⟩
theorem d_AL_add_23 : dz b_AL_add 23 (.iconst 1) 1 24 := ⟨by decide +kernel, rfl⟩
theorem d_AL_add_24 : dz b_AL_add 24 (.ireturn) 1 25 := ⟨by decide +kernel, rfl⟩
theorem d_As_copyOf_0 : dz b_As_copyOf 0 (.aload_n 0) 1 1 := ⟨by decide +kernel, rfl⟩
theorem d_As_copyOf_1 : dz b_As_copyOf 1 (.iload_n 1) 1 2 := ⟨by decide +kernel, rfl⟩
theorem d_As_copyOf_2 : dz b_As_copyOf 2 (.aload_n 0) 1 3 := ⟨by decide +kernel, rfl⟩
theorem d_As_copyOf_3 : dz b_As_copyOf 3 (.invokevirtual 86) 3 6 := ⟨by decide +kernel, rfl⟩
theorem d_As_copyOf_6 : dz b_As_copyOf 6 (.invokestatic 300) 3 9 := ⟨by decide +kernel, rfl⟩
theorem d_As_copyOf_9 : dz b_As_copyOf 9 (.areturn) 1 10 := ⟨by decide +kernel, rfl⟩
theorem d_As_copyOf3_0 : dz b_As_copyOf3 0 (.aload_n 2) 1 1 := ⟨by decide +kernel, rfl⟩
theorem d_As_copyOf3_1 : dz b_As_copyOf3 1 (.ldc 110) 2 3 := ⟨by decide +kernel, rfl⟩
theorem d_As_copyOf3_3 : dj b_As_copyOf3 3 (.if_acmp .ne) 6 13 := ⟨10, by decide +kernel, rfl, by decide⟩
theorem d_As_copyOf3_6 : dz b_As_copyOf3 6 (.iload_n 1) 1 7 := ⟨by decide +kernel, rfl⟩
theorem d_As_copyOf3_7 : dz b_As_copyOf3 7 (.anewarray 2) 3 10 := ⟨by decide +kernel, rfl⟩
theorem d_As_copyOf3_10 : dj b_As_copyOf3 10 (.goto) 13 24 := ⟨14, by decide +kernel, rfl, by decide⟩
theorem d_As_copyOf3_13 : dz b_As_copyOf3 13 (.aload_n 2) 1 14 := ⟨by decide +kernel, rfl⟩
theorem d_As_copyOf3_14 : dz b_As_copyOf3 14 (.invokevirtual 90) 3 17 := ⟨by decide +kernel, rfl⟩
theorem d_As_copyOf3_17 : dz b_As_copyOf3 17 (.iload_n 1) 1 18 := ⟨by decide +kernel, rfl⟩
theorem d_As_copyOf3_18 : dz b_As_copyOf3 18 (.invokestatic 95) 3 21 := ⟨by decide +kernel, rfl⟩
theorem d_As_copyOf3_21 : dz b_As_copyOf3 21 (.checkcast 110) 3 24 := ⟨by decide +kernel, rfl⟩
theorem d_As_copyOf3_24 : dz b_As_copyOf3 24 (.astore_n 3) 1 25 := ⟨by decide +kernel, rfl⟩
theorem d_As_copyOf3_25 : dz b_As_copyOf3 25 (.aload_n 0) 1 26 := ⟨by decide +kernel, rfl⟩
theorem d_As_copyOf3_26 : dz b_As_copyOf3 26 (.iconst 0) 1 27 := ⟨by decide +kernel, rfl⟩
theorem d_As_copyOf3_27 : dz b_As_copyOf3 27 (.aload_n 3) 1 28 := ⟨by decide +kernel, rfl⟩
theorem d_As_copyOf3_28 : dz b_As_copyOf3 28 (.iconst 0) 1 29 := ⟨by decide +kernel, rfl⟩
theorem d_As_copyOf3_29 : dz b_As_copyOf3 29 (.aload_n 0) 1 30 := ⟨by decide +kernel, rfl⟩
theorem d_As_copyOf3_30 : dz b_As_copyOf3 30 (.arraylength) 1 31 := ⟨by decide +kernel, rfl⟩
theorem d_As_copyOf3_31 : dz b_As_copyOf3 31 (.iload_n 1) 1 32 := ⟨by decide +kernel, rfl⟩
theorem d_As_copyOf3_32 : dz b_As_copyOf3 32 (.invokestatic 304) 3 35 := ⟨by decide +kernel, rfl⟩
theorem d_As_copyOf3_35 : dz b_As_copyOf3 35 (.invokestatic 150) 3 38 := ⟨by decide +kernel, rfl⟩
theorem d_As_copyOf3_38 : dz b_As_copyOf3 38 (.aload_n 3) 1 39 := ⟨by decide +kernel, rfl⟩
theorem d_As_copyOf3_39 : dz b_As_copyOf3 39 (.areturn) 1 40 := ⟨by decide +kernel, rfl⟩
theorem d_Ob_checkIndex_0 : dz b_Ob_checkIndex 0 (.iload_n 0) 1 1 := ⟨by decide +kernel, rfl⟩
theorem d_Ob_checkIndex_1 : dz b_Ob_checkIndex 1 (.iload_n 1) 1 2 := ⟨by decide +kernel, rfl⟩
theorem d_Ob_checkIndex_2 : dz b_Ob_checkIndex 2 (.aconst_null) 1 3 := ⟨by decide +kernel, rfl⟩
theorem d_Ob_checkIndex_3 : dz b_Ob_checkIndex 3 (.invokestatic 105) 3 6 := ⟨by decide +kernel, rfl⟩
theorem d_Ob_checkIndex_6 : dz b_Ob_checkIndex 6 (.ireturn) 1 7 := ⟨by decide +kernel, rfl⟩
theorem d_Su_newLength_0 : dz b_Su_newLength 0 (.iload_n 0) 1 1 := ⟨by decide +kernel, rfl⟩
theorem d_Su_newLength_1 : dz b_Su_newLength 1 (.iload_n 1) 1 2 := ⟨by decide +kernel, rfl⟩
theorem d_Su_newLength_2 : dz b_Su_newLength 2 (.iload_n 2) 1 3 := ⟨by decide +kernel, rfl⟩
theorem d_Su_newLength_3 : dz b_Su_newLength 3 (.invokestatic 194) 3 6 := ⟨by decide +kernel, rfl⟩
theorem d_Su_newLength_6 : dz b_Su_newLength 6 (.iadd) 1 7 := ⟨by decide +kernel, rfl⟩
theorem d_Su_newLength_7 : dz b_Su_newLength 7 (.istore_n 3) 1 8 := ⟨by decide +kernel, rfl⟩
theorem d_Su_newLength_8 : dz b_Su_newLength 8 (.iconst 0) 1 9 := ⟨by decide +kernel, rfl⟩
theorem d_Su_newLength_9 : dz b_Su_newLength 9 (.iload_n 3) 1 10 := ⟨by decide +kernel, rfl⟩
theorem d_Su_newLength_10 : dj b_Su_newLength 10 (.if_icmp .ge) 13 21 := ⟨11, by decide +kernel, rfl, by decide⟩
theorem d_Su_newLength_13 : dz b_Su_newLength 13 (.iload_n 3) 1 14 := ⟨by decide +kernel, rfl⟩
theorem d_Su_newLength_14 : dz b_Su_newLength 14 (.ldc 200) 2 16 := ⟨by decide +kernel, rfl⟩
theorem d_Su_newLength_16 : dj b_Su_newLength 16 (.if_icmp .gt) 19 21 := ⟨5, by decide +kernel, rfl, by decide⟩
theorem d_Su_newLength_19 : dz b_Su_newLength 19 (.iload_n 3) 1 20 := ⟨by decide +kernel, rfl⟩
theorem d_Su_newLength_20 : dz b_Su_newLength 20 (.ireturn) 1 21 := ⟨by decide +kernel, rfl⟩
theorem d_Su_newLength_21 : dz b_Su_newLength 21 (.iload_n 0) 1 22 := ⟨by decide +kernel, rfl⟩
theorem d_Su_newLength_22 : dz b_Su_newLength 22 (.iload_n 1) 1 23 := ⟨by decide +kernel, rfl⟩
theorem d_Su_newLength_23 : dz b_Su_newLength 23 (.invokestatic 201) 3 26 := ⟨by decide +kernel, rfl⟩
theorem d_Su_newLength_26 : dz b_Su_newLength 26 (.ireturn) 1 27 := ⟨by decide +kernel, rfl⟩
theorem d_Su_hugeLength_0 : dz b_Su_hugeLength 0 (.iload_n 0) 1 1 := ⟨by decide +kernel, rfl⟩
theorem d_Su_hugeLength_1 : dz b_Su_hugeLength 1 (.iload_n 1) 1 2 := ⟨by decide +kernel, rfl⟩
theorem d_Su_hugeLength_2 : dz b_Su_hugeLength 2 (.iadd) 1 3 := ⟨by decide +kernel, rfl⟩
theorem d_Su_hugeLength_3 : dz b_Su_hugeLength 3 (.istore_n 2) 1 4 := ⟨by decide +kernel, rfl⟩
theorem d_Su_hugeLength_4 : dz b_Su_hugeLength 4 (.iload_n 2) 1 5 := ⟨by decide +kernel, rfl⟩
theorem d_Su_hugeLength_5 : dj b_Su_hugeLength 5 (.ifCond .ge) 8 49 := ⟨44, by decide +kernel, rfl, by decide⟩
theorem d_Su_hugeLength_8 : dz b_Su_hugeLength 8 (.new 204) 3 11 := ⟨by decide +kernel, rfl⟩
theorem d_Su_hugeLength_11 : dz b_Su_hugeLength 11 (.dup) 1 12 := ⟨by decide +kernel, rfl⟩
theorem d_Su_hugeLength_12 : dz b_Su_hugeLength 12 (.new 89) 3 15 := ⟨by decide +kernel, rfl⟩
theorem d_Su_hugeLength_15 : dz b_Su_hugeLength 15 (.dup) 1 16 := ⟨by decide +kernel, rfl⟩
theorem d_Su_hugeLength_16 : dz b_Su_hugeLength 16 (.invokespecial 91) 3 19 := ⟨by decide +kernel, rfl⟩
theorem d_Su_hugeLength_19 : dz b_Su_hugeLength 19 (.ldc 206) 2 21 := ⟨by decide +kernel, rfl⟩
theorem d_Su_hugeLength_21 : dz b_Su_hugeLength 21 (.invokevirtual 94) 3 24 := ⟨by decide +kernel, rfl⟩
theorem d_Su_hugeLength_24 : dz b_Su_hugeLength 24 (.iload_n 0) 1 25 := ⟨by decide +kernel, rfl⟩
theorem d_Su_hugeLength_25 : dz b_Su_hugeLength 25 (.invokevirtual 98) 3 28 := ⟨by decide +kernel, rfl⟩
theorem d_Su_hugeLength_28 : dz b_Su_hugeLength 28 (.ldc 208) 2 30 := ⟨by decide +kernel, rfl⟩
theorem d_Su_hugeLength_30 : dz b_Su_hugeLength 30 (.invokevirtual 94) 3 33 := ⟨by decide +kernel, rfl⟩
theorem d_Su_hugeLength_33 : dz b_Su_hugeLength 33 (.iload_n 1) 1 34 := ⟨by decide +kernel, rfl⟩
theorem d_Su_hugeLength_34 : dz b_Su_hugeLength 34 (.invokevirtual 98) 3 37 := ⟨by decide +kernel, rfl⟩
theorem d_Su_hugeLength_37 : dz b_Su_hugeLength 37 (.ldc 210) 2 39 := ⟨by decide +kernel, rfl⟩
theorem d_Su_hugeLength_39 : dz b_Su_hugeLength 39 (.invokevirtual 94) 3 42 := ⟨by decide +kernel, rfl⟩
theorem d_Su_hugeLength_42 : dz b_Su_hugeLength 42 (.invokevirtual 101) 3 45 := ⟨by decide +kernel, rfl⟩
theorem d_Su_hugeLength_45 : dz b_Su_hugeLength 45 (.invokespecial 212) 3 48 := ⟨by decide +kernel, rfl⟩
theorem d_Su_hugeLength_48 : dz b_Su_hugeLength 48 (.athrow) 1 49 := ⟨by decide +kernel, rfl⟩
theorem d_Su_hugeLength_49 : dz b_Su_hugeLength 49 (.iload_n 2) 1 50 := ⟨by decide +kernel, rfl⟩
theorem d_Su_hugeLength_50 : dz b_Su_hugeLength 50 (.ldc 200) 2 52 := ⟨by decide +kernel, rfl⟩
theorem d_Su_hugeLength_52 : dj b_Su_hugeLength 52 (.if_icmp .gt) 55 58 := ⟨6, by decide +kernel, rfl, by decide⟩
theorem d_Su_hugeLength_55 : dz b_Su_hugeLength 55 (.ldc 200) 2 57 := ⟨by decide +kernel, rfl⟩
theorem d_Su_hugeLength_57 : dz b_Su_hugeLength 57 (.ireturn) 1 58 := ⟨by decide +kernel, rfl⟩
theorem d_Su_hugeLength_58 : dz b_Su_hugeLength 58 (.iload_n 2) 1 59 := ⟨by decide +kernel, rfl⟩
theorem d_Su_hugeLength_59 : dz b_Su_hugeLength 59 (.ireturn) 1 60 := ⟨by decide +kernel, rfl⟩
theorem d_Pr_checkIndex_0 : dz b_Pr_checkIndex 0 (.iload_n 0) 1 1 := ⟨by decide +kernel, rfl⟩
theorem d_Pr_checkIndex_1 : dj b_Pr_checkIndex 1 (.ifCond .lt) 4 9 := ⟨8, by decide +kernel, rfl, by decide⟩
theorem d_Pr_checkIndex_4 : dz b_Pr_checkIndex 4 (.iload_n 0) 1 5 := ⟨by decide +kernel, rfl⟩
theorem d_Pr_checkIndex_5 : dz b_Pr_checkIndex 5 (.iload_n 1) 1 6 := ⟨by decide +kernel, rfl⟩
theorem d_Pr_checkIndex_6 : dj b_Pr_checkIndex 6 (.if_icmp .lt) 9 16 := ⟨10, by decide +kernel, rfl, by decide⟩
theorem d_Pr_checkIndex_9 : dz b_Pr_checkIndex 9 (.aload_n 2) 1 10 := ⟨by decide +kernel, rfl⟩
theorem d_Pr_checkIndex_10 : dz b_Pr_checkIndex 10 (.iload_n 0) 1 11 := ⟨by decide +kernel, rfl⟩
theorem d_Pr_checkIndex_11 : dz b_Pr_checkIndex 11 (.iload_n 1) 1 12 := ⟨by decide +kernel, rfl⟩
theorem d_Pr_checkIndex_12 : dz b_Pr_checkIndex 12 (.invokestatic 95) 3 15 := ⟨by decide +kernel, rfl⟩
theorem d_Pr_checkIndex_15 : dz b_Pr_checkIndex 15 (.athrow) 1 16 := ⟨by decide +kernel, rfl⟩
theorem d_Pr_checkIndex_16 : dz b_Pr_checkIndex 16 (.iload_n 0) 1 17 := ⟨by decide +kernel, rfl⟩
theorem d_Pr_checkIndex_17 : dz b_Pr_checkIndex 17 (.ireturn) 1 18 := ⟨by decide +kernel, rfl⟩
end
section
theorem d_Mo_isMan_0 : dz b_Mo_isMan 0 (.iload_n 1) 1 1 := ⟨by decide +kernel, rfl⟩
theorem d_Mo_isMan_1 : dj b_Mo_isMan 1 (.ifCond .lt) 4 16 := ⟨15, by decide +kernel, rfl, by decide⟩
theorem d_Mo_isMan_4 : dz b_Mo_isMan 4 (.iload_n 1) 1 5 := ⟨by decide +kernel, rfl⟩
theorem d_Mo_isMan_5 : dz b_Mo_isMan 5 (.aload_n 0) 1 6 := ⟨by decide +kernel, rfl⟩
theorem d_Mo_isMan_6 : dz b_Mo_isMan 6 (.getfield 1) 3 9 := ⟨by decide +kernel, rfl⟩
theorem d_Mo_isMan_9 : dj b_Mo_isMan 9 (.if_icmp .ge) 12 16 := ⟨7, by decide +kernel, rfl, by decide⟩
theorem d_Mo_isMan_12 : dz b_Mo_isMan 12 (.iconst 1) 1 13 := ⟨by decide +kernel, rfl⟩
theorem d_Mo_isMan_13 : dj b_Mo_isMan 13 (.goto) 16 17 := ⟨4, by decide +kernel, rfl, by decide⟩
theorem d_Mo_isMan_16 : dz b_Mo_isMan 16 (.iconst 0) 1 17 := ⟨by decide +kernel, rfl⟩
theorem d_Mo_isMan_17 : dz b_Mo_isMan 17 (.ireturn) 1 18 := ⟨by decide +kernel, rfl⟩
theorem d_Mo_isLetter_0 : dz b_Mo_isLetter 0 (.iload_n 0) 1 1 := ⟨by decide +kernel, rfl⟩
theorem d_Mo_isLetter_1 : dz b_Mo_isLetter 1 (.bipush 97) 2 3 := ⟨by decide +kernel, rfl⟩
theorem d_Mo_isLetter_3 : dj b_Mo_isLetter 3 (.if_icmp .lt) 6 16 := ⟨13, by decide +kernel, rfl, by decide⟩
theorem d_Mo_isLetter_6 : dz b_Mo_isLetter 6 (.iload_n 0) 1 7 := ⟨by decide +kernel, rfl⟩
theorem d_Mo_isLetter_7 : dz b_Mo_isLetter 7 (.bipush 122) 2 9 := ⟨by decide +kernel, rfl⟩
theorem d_Mo_isLetter_9 : dj b_Mo_isLetter 9 (.if_icmp .gt) 12 16 := ⟨7, by decide +kernel, rfl, by decide⟩
theorem d_Mo_isLetter_12 : dz b_Mo_isLetter 12 (.iconst 1) 1 13 := ⟨by decide +kernel, rfl⟩
theorem d_Mo_isLetter_13 : dj b_Mo_isLetter 13 (.goto) 16 17 := ⟨4, by decide +kernel, rfl, by decide⟩
theorem d_Mo_isLetter_16 : dz b_Mo_isLetter 16 (.iconst 0) 1 17 := ⟨by decide +kernel, rfl⟩
theorem d_Mo_isLetter_17 : dz b_Mo_isLetter 17 (.ireturn) 1 18 := ⟨by decide +kernel, rfl⟩
theorem d_Mo_isDigit_0 : dz b_Mo_isDigit 0 (.iload_n 0) 1 1 := ⟨by decide +kernel, rfl⟩
theorem d_Mo_isDigit_1 : dz b_Mo_isDigit 1 (.bipush 48) 2 3 := ⟨by decide +kernel, rfl⟩
theorem d_Mo_isDigit_3 : dj b_Mo_isDigit 3 (.if_icmp .lt) 6 16 := ⟨13, by decide +kernel, rfl, by decide⟩
theorem d_Mo_isDigit_6 : dz b_Mo_isDigit 6 (.iload_n 0) 1 7 := ⟨by decide +kernel, rfl⟩
theorem d_Mo_isDigit_7 : dz b_Mo_isDigit 7 (.bipush 57) 2 9 := ⟨by decide +kernel, rfl⟩
theorem d_Mo_isDigit_9 : dj b_Mo_isDigit 9 (.if_icmp .gt) 12 16 := ⟨7, by decide +kernel, rfl, by decide⟩
theorem d_Mo_isDigit_12 : dz b_Mo_isDigit 12 (.iconst 1) 1 13 := ⟨by decide +kernel, rfl⟩
theorem d_Mo_isDigit_13 : dj b_Mo_isDigit 13 (.goto) 16 17 := ⟨4, by decide +kernel, rfl, by decide⟩
theorem d_Mo_isDigit_16 : dz b_Mo_isDigit 16 (.iconst 0) 1 17 := ⟨by decide +kernel, rfl⟩
theorem d_Mo_isDigit_17 : dz b_Mo_isDigit 17 (.ireturn) 1 18 := ⟨by decide +kernel, rfl⟩
theorem d_Mo_reasonOf_0 : dz b_Mo_reasonOf 0 (.lload_n 0) 1 1 := ⟨by decide +kernel, rfl⟩
theorem d_Mo_reasonOf_1 : dz b_Mo_reasonOf 1 (.ldc2_w 7) 3 4 := ⟨by decide +kernel, rfl⟩
theorem d_Mo_reasonOf_4 : dz b_Mo_reasonOf 4 (.lcmp) 1 5 := ⟨by decide +kernel, rfl⟩
theorem d_Mo_reasonOf_5 : dj b_Mo_reasonOf 5 (.ifCond .ne) 8 12 := ⟨7, by decide +kernel, rfl, by decide⟩
theorem d_Mo_reasonOf_8 : dz b_Mo_reasonOf 8 (.iconst 1) 1 9 := ⟨by decide +kernel, rfl⟩
theorem d_Mo_reasonOf_9 : dj b_Mo_reasonOf 9 (.goto) 12 61 := ⟨52, by decide +kernel, rfl, by decide⟩
theorem d_Mo_reasonOf_12 : dz b_Mo_reasonOf 12 (.lload_n 0) 1 13 := ⟨by decide +kernel, rfl⟩
theorem d_Mo_reasonOf_13 : dz b_Mo_reasonOf 13 (.ldc2_w 9) 3 16 := ⟨by decide +kernel, rfl⟩
theorem d_Mo_reasonOf_16 : dz b_Mo_reasonOf 16 (.lcmp) 1 17 := ⟨by decide +kernel, rfl⟩
theorem d_Mo_reasonOf_17 : dj b_Mo_reasonOf 17 (.ifCond .ne) 20 24 := ⟨7, by decide +kernel, rfl, by decide⟩
theorem d_Mo_reasonOf_20 : dz b_Mo_reasonOf 20 (.iconst 2) 1 21 := ⟨by decide +kernel, rfl⟩
theorem d_Mo_reasonOf_21 : dj b_Mo_reasonOf 21 (.goto) 24 61 := ⟨40, by decide +kernel, rfl, by decide⟩
theorem d_Mo_reasonOf_24 : dz b_Mo_reasonOf 24 (.lload_n 0) 1 25 := ⟨by decide +kernel, rfl⟩
theorem d_Mo_reasonOf_25 : dz b_Mo_reasonOf 25 (.ldc2_w 11) 3 28 := ⟨by decide +kernel, rfl⟩
theorem d_Mo_reasonOf_28 : dz b_Mo_reasonOf 28 (.lcmp) 1 29 := ⟨by decide +kernel, rfl⟩
theorem d_Mo_reasonOf_29 : dj b_Mo_reasonOf 29 (.ifCond .ne) 32 36 := ⟨7, by decide +kernel, rfl, by decide⟩
theorem d_Mo_reasonOf_32 : dz b_Mo_reasonOf 32 (.iconst 3) 1 33 := ⟨by decide +kernel, rfl⟩
theorem d_Mo_reasonOf_33 : dj b_Mo_reasonOf 33 (.goto) 36 61 := ⟨28, by decide +kernel, rfl, by decide⟩
theorem d_Mo_reasonOf_36 : dz b_Mo_reasonOf 36 (.lload_n 0) 1 37 := ⟨by decide +kernel, rfl⟩
theorem d_Mo_reasonOf_37 : dz b_Mo_reasonOf 37 (.ldc2_w 13) 3 40 := ⟨by decide +kernel, rfl⟩
theorem d_Mo_reasonOf_40 : dz b_Mo_reasonOf 40 (.lcmp) 1 41 := ⟨by decide +kernel, rfl⟩
theorem d_Mo_reasonOf_41 : dj b_Mo_reasonOf 41 (.ifCond .ne) 44 48 := ⟨7, by decide +kernel, rfl, by decide⟩
theorem d_Mo_reasonOf_44 : dz b_Mo_reasonOf 44 (.iconst 4) 1 45 := ⟨by decide +kernel, rfl⟩
theorem d_Mo_reasonOf_45 : dj b_Mo_reasonOf 45 (.goto) 48 61 := ⟨16, by decide +kernel, rfl, by decide⟩
theorem d_Mo_reasonOf_48 : dz b_Mo_reasonOf 48 (.lload_n 0) 1 49 := ⟨by decide +kernel, rfl⟩
theorem d_Mo_reasonOf_49 : dz b_Mo_reasonOf 49 (.ldc2_w 15) 3 52 := ⟨by decide +kernel, rfl⟩
theorem d_Mo_reasonOf_52 : dz b_Mo_reasonOf 52 (.lcmp) 1 53 := ⟨by decide +kernel, rfl⟩
theorem d_Mo_reasonOf_53 : dj b_Mo_reasonOf 53 (.ifCond .ne) 56 60 := ⟨7, by decide +kernel, rfl, by decide⟩
theorem d_Mo_reasonOf_56 : dz b_Mo_reasonOf 56 (.iconst 5) 1 57 := ⟨by decide +kernel, rfl⟩
theorem d_Mo_reasonOf_57 : dj b_Mo_reasonOf 57 (.goto) 60 61 := ⟨4, by decide +kernel, rfl, by decide⟩
theorem d_Mo_reasonOf_60 : dz b_Mo_reasonOf 60 (.iconst 0) 1 61 := ⟨by decide +kernel, rfl⟩
theorem d_Mo_reasonOf_61 : dz b_Mo_reasonOf 61 (.ireturn) 1 62 := ⟨by decide +kernel, rfl⟩
theorem d_Mo_isKept_0 : dz b_Mo_isKept 0 (.lload_n 0) 1 1 := ⟨by decide +kernel, rfl⟩
theorem d_Mo_isKept_1 : dz b_Mo_isKept 1 (.invokestatic 17) 3 4 := ⟨by decide +kernel, rfl⟩
theorem d_Mo_isKept_4 : dj b_Mo_isKept 4 (.ifCond .gt) 7 39 := ⟨35, by decide +kernel, rfl, by decide⟩
theorem d_Mo_isKept_7 : dz b_Mo_isKept 7 (.lload_n 0) 1 8 := ⟨by decide +kernel, rfl⟩
theorem d_Mo_isKept_8 : dz b_Mo_isKept 8 (.ldc2_w 21) 3 11 := ⟨by decide +kernel, rfl⟩
theorem d_Mo_isKept_11 : dz b_Mo_isKept 11 (.lcmp) 1 12 := ⟨by decide +kernel, rfl⟩
theorem d_Mo_isKept_12 : dj b_Mo_isKept 12 (.ifCond .eq) 15 39 := ⟨27, by decide +kernel, rfl, by decide⟩
theorem d_Mo_isKept_15 : dz b_Mo_isKept 15 (.lload_n 0) 1 16 := ⟨by decide +kernel, rfl⟩
theorem d_Mo_isKept_16 : dz b_Mo_isKept 16 (.ldc2_w 23) 3 19 := ⟨by decide +kernel, rfl⟩
theorem d_Mo_isKept_19 : dz b_Mo_isKept 19 (.lcmp) 1 20 := ⟨by decide +kernel, rfl⟩
theorem d_Mo_isKept_20 : dj b_Mo_isKept 20 (.ifCond .eq) 23 39 := ⟨19, by decide +kernel, rfl, by decide⟩
theorem d_Mo_isKept_23 : dz b_Mo_isKept 23 (.lload_n 0) 1 24 := ⟨by decide +kernel, rfl⟩
theorem d_Mo_isKept_24 : dz b_Mo_isKept 24 (.ldc2_w 25) 3 27 := ⟨by decide +kernel, rfl⟩
theorem d_Mo_isKept_27 : dz b_Mo_isKept 27 (.lcmp) 1 28 := ⟨by decide +kernel, rfl⟩
theorem d_Mo_isKept_28 : dj b_Mo_isKept 28 (.ifCond .eq) 31 39 := ⟨11, by decide +kernel, rfl, by decide⟩
theorem d_Mo_isKept_31 : dz b_Mo_isKept 31 (.lload_n 0) 1 32 := ⟨by decide +kernel, rfl⟩
theorem d_Mo_isKept_32 : dz b_Mo_isKept 32 (.ldc2_w 27) 3 35 := ⟨by decide +kernel, rfl⟩
theorem d_Mo_isKept_35 : dz b_Mo_isKept 35 (.lcmp) 1 36 := ⟨by decide +kernel, rfl⟩
theorem d_Mo_isKept_36 : dj b_Mo_isKept 36 (.ifCond .ne) 39 43 := ⟨7, by decide +kernel, rfl, by decide⟩
theorem d_Mo_isKept_39 : dz b_Mo_isKept 39 (.iconst 1) 1 40 := ⟨by decide +kernel, rfl⟩
theorem d_Mo_isKept_40 : dj b_Mo_isKept 40 (.goto) 43 44 := ⟨4, by decide +kernel, rfl, by decide⟩
theorem d_Mo_isKept_43 : dz b_Mo_isKept 43 (.iconst 0) 1 44 := ⟨by decide +kernel, rfl⟩
theorem d_Mo_isKept_44 : dz b_Mo_isKept 44 (.ireturn) 1 45 := ⟨by decide +kernel, rfl⟩
theorem d_Mo_lettersOf_0 : dz b_Mo_lettersOf 0 (.iconst 0) 1 1 := ⟨by decide +kernel, rfl⟩
theorem d_Mo_lettersOf_1 : dz b_Mo_lettersOf 1 (.istore_n 2) 1 2 := ⟨by decide +kernel, rfl⟩
theorem d_Mo_lettersOf_2 : dz b_Mo_lettersOf 2 (.iload_n 2) 1 3 := ⟨by decide +kernel, rfl⟩
theorem d_Mo_lettersOf_3 : dz b_Mo_lettersOf 3 (.bipush 8) 2 5 := ⟨by decide +kernel, rfl⟩
theorem d_Mo_lettersOf_5 : dj b_Mo_lettersOf 5 (.if_icmp .ge) 8 25 := ⟨20, by decide +kernel, rfl, by decide⟩
theorem d_Mo_lettersOf_8 : dz b_Mo_lettersOf 8 (.lload_n 0) 1 9 := ⟨by decide +kernel, rfl⟩
theorem d_Mo_lettersOf_9 : dz b_Mo_lettersOf 9 (.bipush 8) 2 11 := ⟨by decide +kernel, rfl⟩
theorem d_Mo_lettersOf_11 : dz b_Mo_lettersOf 11 (.iload_n 2) 1 12 := ⟨by decide +kernel, rfl⟩
theorem d_Mo_lettersOf_12 : dz b_Mo_lettersOf 12 (.imul) 1 13 := ⟨by decide +kernel, rfl⟩
theorem d_Mo_lettersOf_13 : dz b_Mo_lettersOf 13 (.lushr) 1 14 := ⟨by decide +kernel, rfl⟩
theorem d_Mo_lettersOf_14 : dz b_Mo_lettersOf 14 (.lconst 0) 1 15 := ⟨by decide +kernel, rfl⟩
theorem d_Mo_lettersOf_15 : dz b_Mo_lettersOf 15 (.lcmp) 1 16 := ⟨by decide +kernel, rfl⟩
theorem d_Mo_lettersOf_16 : dj b_Mo_lettersOf 16 (.ifCond .eq) 19 25 := ⟨9, by decide +kernel, rfl, by decide⟩
theorem d_Mo_lettersOf_19 : dz b_Mo_lettersOf 19 (.iinc 2 1) 3 22 := ⟨by decide +kernel, rfl⟩
theorem d_Mo_lettersOf_22 : dj b_Mo_lettersOf 22 (.goto) 25 2 := ⟨(-20), by decide +kernel, rfl, by decide⟩
theorem d_Mo_lettersOf_25 : dz b_Mo_lettersOf 25 (.iload_n 2) 1 26 := ⟨by decide +kernel, rfl⟩
theorem d_Mo_lettersOf_26 : dz b_Mo_lettersOf 26 (.ireturn) 1 27 := ⟨by decide +kernel, rfl⟩
theorem d_Mo_isName_0 : dz b_Mo_isName 0 (.iconst 0) 1 1 := ⟨by decide +kernel, rfl⟩
theorem d_Mo_isName_1 : dz b_Mo_isName 1 (.istore_n 2) 1 2 := ⟨by decide +kernel, rfl⟩
theorem d_Mo_isName_2 : dz b_Mo_isName 2 (.iload_n 2) 1 3 := ⟨by decide +kernel, rfl⟩
theorem d_Mo_isName_3 : dz b_Mo_isName 3 (.lload_n 0) 1 4 := ⟨by decide +kernel, rfl⟩
theorem d_Mo_isName_4 : dz b_Mo_isName 4 (.invokestatic 29) 3 7 := ⟨by decide +kernel, rfl⟩
theorem d_Mo_isName_7 : dj b_Mo_isName 7 (.if_icmp .ge) 10 35 := ⟨28, by decide +kernel, rfl, by decide⟩
theorem d_Mo_isName_10 : dz b_Mo_isName 10 (.lload_n 0) 1 11 := ⟨by decide +kernel, rfl⟩
theorem d_Mo_isName_11 : dz b_Mo_isName 11 (.bipush 8) 2 13 := ⟨by decide +kernel, rfl⟩
theorem d_Mo_isName_13 : dz b_Mo_isName 13 (.iload_n 2) 1 14 := ⟨by decide +kernel, rfl⟩
theorem d_Mo_isName_14 : dz b_Mo_isName 14 (.imul) 1 15 := ⟨by decide +kernel, rfl⟩
theorem d_Mo_isName_15 : dz b_Mo_isName 15 (.lushr) 1 16 := ⟨by decide +kernel, rfl⟩
theorem d_Mo_isName_16 : dz b_Mo_isName 16 (.ldc2_w 32) 3 19 := ⟨by decide +kernel, rfl⟩
theorem d_Mo_isName_19 : dz b_Mo_isName 19 (.land) 1 20 := ⟨by decide +kernel, rfl⟩
theorem d_Mo_isName_20 : dz b_Mo_isName 20 (.l2i) 1 21 := ⟨by decide +kernel, rfl⟩
theorem d_Mo_isName_21 : dz b_Mo_isName 21 (.invokestatic 34) 3 24 := ⟨by decide +kernel, rfl⟩
theorem d_Mo_isName_24 : dj b_Mo_isName 24 (.ifCond .ne) 27 29 := ⟨5, by decide +kernel, rfl, by decide⟩
theorem d_Mo_isName_27 : dz b_Mo_isName 27 (.iconst 0) 1 28 := ⟨by decide +kernel, rfl⟩
theorem d_Mo_isName_28 : dz b_Mo_isName 28 (.ireturn) 1 29 := ⟨by decide +kernel, rfl⟩
theorem d_Mo_isName_29 : dz b_Mo_isName 29 (.iinc 2 1) 3 32 := ⟨by decide +kernel, rfl⟩
theorem d_Mo_isName_32 : dj b_Mo_isName 32 (.goto) 35 2 := ⟨(-30), by decide +kernel, rfl, by decide⟩
theorem d_Mo_isName_35 : dz b_Mo_isName 35 (.lload_n 0) 1 36 := ⟨by decide +kernel, rfl⟩
theorem d_Mo_isName_36 : dz b_Mo_isName 36 (.lconst 0) 1 37 := ⟨by decide +kernel, rfl⟩
theorem d_Mo_isName_37 : dz b_Mo_isName 37 (.lcmp) 1 38 := ⟨by decide +kernel, rfl⟩
theorem d_Mo_isName_38 : dj b_Mo_isName 38 (.ifCond .eq) 41 52 := ⟨14, by decide +kernel, rfl, by decide⟩
theorem d_Mo_isName_41 : dz b_Mo_isName 41 (.lload_n 0) 1 42 := ⟨by decide +kernel, rfl⟩
theorem d_Mo_isName_42 : dz b_Mo_isName 42 (.invokestatic 38) 3 45 := ⟨by decide +kernel, rfl⟩
theorem d_Mo_isName_45 : dj b_Mo_isName 45 (.ifCond .ne) 48 52 := ⟨7, by decide +kernel, rfl, by decide⟩
theorem d_Mo_isName_48 : dz b_Mo_isName 48 (.iconst 1) 1 49 := ⟨by decide +kernel, rfl⟩
theorem d_Mo_isName_49 : dj b_Mo_isName 49 (.goto) 52 53 := ⟨4, by decide +kernel, rfl, by decide⟩
theorem d_Mo_isName_52 : dz b_Mo_isName 52 (.iconst 0) 1 53 := ⟨by decide +kernel, rfl⟩
theorem d_Mo_isName_53 : dz b_Mo_isName 53 (.ireturn) 1 54 := ⟨by decide +kernel, rfl⟩
theorem d_Mo_manOf_0 : dz b_Mo_manOf 0 (.iconst 0) 1 1 := ⟨by decide +kernel, rfl⟩
theorem d_Mo_manOf_1 : dz b_Mo_manOf 1 (.istore_n 3) 1 2 := ⟨by decide +kernel, rfl⟩
theorem d_Mo_manOf_2 : dz b_Mo_manOf 2 (.iload_n 3) 1 3 := ⟨by decide +kernel, rfl⟩
theorem d_Mo_manOf_3 : dz b_Mo_manOf 3 (.aload_n 0) 1 4 := ⟨by decide +kernel, rfl⟩
theorem d_Mo_manOf_4 : dz b_Mo_manOf 4 (.getfield 1) 3 7 := ⟨by decide +kernel, rfl⟩
theorem d_Mo_manOf_7 : dj b_Mo_manOf 7 (.if_icmp .ge) 10 29 := ⟨22, by decide +kernel, rfl, by decide⟩
theorem d_Mo_manOf_10 : dz b_Mo_manOf 10 (.aload_n 0) 1 11 := ⟨by decide +kernel, rfl⟩
theorem d_Mo_manOf_11 : dz b_Mo_manOf 11 (.getfield 42) 3 14 := ⟨by decide +kernel, rfl⟩
theorem d_Mo_manOf_14 : dz b_Mo_manOf 14 (.iload_n 3) 1 15 := ⟨by decide +kernel, rfl⟩
theorem d_Mo_manOf_15 : dz b_Mo_manOf 15 (.laload) 1 16 := ⟨by decide +kernel, rfl⟩
theorem d_Mo_manOf_16 : dz b_Mo_manOf 16 (.lload_n 1) 1 17 := ⟨by decide +kernel, rfl⟩
theorem d_Mo_manOf_17 : dz b_Mo_manOf 17 (.lcmp) 1 18 := ⟨by decide +kernel, rfl⟩
theorem d_Mo_manOf_18 : dj b_Mo_manOf 18 (.ifCond .ne) 21 23 := ⟨5, by decide +kernel, rfl, by decide⟩
theorem d_Mo_manOf_21 : dz b_Mo_manOf 21 (.iload_n 3) 1 22 := ⟨by decide +kernel, rfl⟩
theorem d_Mo_manOf_22 : dz b_Mo_manOf 22 (.ireturn) 1 23 := ⟨by decide +kernel, rfl⟩
theorem d_Mo_manOf_23 : dz b_Mo_manOf 23 (.iinc 3 1) 3 26 := ⟨by decide +kernel, rfl⟩
theorem d_Mo_manOf_26 : dj b_Mo_manOf 26 (.goto) 29 2 := ⟨(-24), by decide +kernel, rfl, by decide⟩
theorem d_Mo_manOf_29 : dz b_Mo_manOf 29 (.iconst (-1)) 1 30 := ⟨by decide +kernel, rfl⟩
theorem d_Mo_manOf_30 : dz b_Mo_manOf 30 (.ireturn) 1 31 := ⟨by decide +kernel, rfl⟩
theorem d_Mo_man_0 : dz b_Mo_man 0 (.lload_n 1) 1 1 := ⟨by decide +kernel, rfl⟩
theorem d_Mo_man_1 : dz b_Mo_man 1 (.invokestatic 46) 3 4 := ⟨by decide +kernel, rfl⟩
theorem d_Mo_man_4 : dj b_Mo_man 4 (.ifCond .eq) 7 44 := ⟨40, by decide +kernel, rfl, by decide⟩
theorem d_Mo_man_7 : dz b_Mo_man 7 (.iload_n 3) 1 8 := ⟨by decide +kernel, rfl⟩
theorem d_Mo_man_8 : dj b_Mo_man 8 (.ifCond .lt) 11 44 := ⟨36, by decide +kernel, rfl, by decide⟩
theorem d_Mo_man_11 : dz b_Mo_man 11 (.iload_n 3) 1 12 := ⟨by decide +kernel, rfl⟩
theorem d_Mo_man_12 : dz b_Mo_man 12 (.iconst 1) 1 13 := ⟨by decide +kernel, rfl⟩
theorem d_Mo_man_13 : dj b_Mo_man 13 (.if_icmp .gt) 16 44 := ⟨31, by decide +kernel, rfl, by decide⟩
theorem d_Mo_man_16 : dz b_Mo_man 16 (.iload 4) 2 18 := ⟨by decide +kernel, rfl⟩
theorem d_Mo_man_18 : dj b_Mo_man 18 (.ifCond .lt) 21 44 := ⟨26, by decide +kernel, rfl, by decide⟩
theorem d_Mo_man_21 : dz b_Mo_man 21 (.iload 4) 2 23 := ⟨by decide +kernel, rfl⟩
theorem d_Mo_man_23 : dz b_Mo_man 23 (.iconst 4) 1 24 := ⟨by decide +kernel, rfl⟩
theorem d_Mo_man_24 : dj b_Mo_man 24 (.if_icmp .ge) 27 44 := ⟨20, by decide +kernel, rfl, by decide⟩
theorem d_Mo_man_27 : dz b_Mo_man 27 (.aload_n 0) 1 28 := ⟨by decide +kernel, rfl⟩
theorem d_Mo_man_28 : dz b_Mo_man 28 (.lload_n 1) 1 29 := ⟨by decide +kernel, rfl⟩
theorem d_Mo_man_29 : dz b_Mo_man 29 (.invokevirtual 49) 3 32 := ⟨by decide +kernel, rfl⟩
theorem d_Mo_man_32 : dj b_Mo_man 32 (.ifCond .ge) 35 44 := ⟨12, by decide +kernel, rfl, by decide⟩
theorem d_Mo_man_35 : dz b_Mo_man 35 (.aload_n 0) 1 36 := ⟨by decide +kernel, rfl⟩
theorem d_Mo_man_36 : dz b_Mo_man 36 (.getfield 1) 3 39 := ⟨by decide +kernel, rfl⟩
theorem d_Mo_man_39 : dz b_Mo_man 39 (.bipush 12) 2 41 := ⟨by decide +kernel, rfl⟩
theorem d_Mo_man_41 : dj b_Mo_man 41 (.if_icmp .ne) 44 46 := ⟨5, by decide +kernel, rfl, by decide⟩
theorem d_Mo_man_44 : dz b_Mo_man 44 (.iconst (-1)) 1 45 := ⟨by decide +kernel, rfl⟩
theorem d_Mo_man_45 : dz b_Mo_man 45 (.ireturn) 1 46 := ⟨by decide +kernel, rfl⟩
theorem d_Mo_man_46 : dz b_Mo_man 46 (.aload_n 0) 1 47 := ⟨by decide +kernel, rfl⟩
theorem d_Mo_man_47 : dz b_Mo_man 47 (.getfield 42) 3 50 := ⟨by decide +kernel, rfl⟩
theorem d_Mo_man_50 : dz b_Mo_man 50 (.aload_n 0) 1 51 := ⟨by decide +kernel, rfl⟩
theorem d_Mo_man_51 : dz b_Mo_man 51 (.getfield 1) 3 54 := ⟨by decide +kernel, rfl⟩
theorem d_Mo_man_54 : dz b_Mo_man 54 (.lload_n 1) 1 55 := ⟨by decide +kernel, rfl⟩
theorem d_Mo_man_55 : dz b_Mo_man 55 (.lastore) 1 56 := ⟨by decide +kernel, rfl⟩
theorem d_Mo_man_56 : dz b_Mo_man 56 (.aload_n 0) 1 57 := ⟨by decide +kernel, rfl⟩
theorem d_Mo_man_57 : dz b_Mo_man 57 (.getfield 52) 3 60 := ⟨by decide +kernel, rfl⟩
theorem d_Mo_man_60 : dz b_Mo_man 60 (.aload_n 0) 1 61 := ⟨by decide +kernel, rfl⟩
theorem d_Mo_man_61 : dz b_Mo_man 61 (.getfield 1) 3 64 := ⟨by decide +kernel, rfl⟩
theorem d_Mo_man_64 : dz b_Mo_man 64 (.iload_n 3) 1 65 := ⟨by decide +kernel, rfl⟩
theorem d_Mo_man_65 : dz b_Mo_man 65 (.iastore) 1 66 := ⟨by decide +kernel, rfl⟩
theorem d_Mo_man_66 : dz b_Mo_man 66 (.aload_n 0) 1 67 := ⟨by decide +kernel, rfl⟩
theorem d_Mo_man_67 : dz b_Mo_man 67 (.getfield 56) 3 70 := ⟨by decide +kernel, rfl⟩
theorem d_Mo_man_70 : dz b_Mo_man 70 (.aload_n 0) 1 71 := ⟨by decide +kernel, rfl⟩
theorem d_Mo_man_71 : dz b_Mo_man 71 (.getfield 1) 3 74 := ⟨by decide +kernel, rfl⟩
theorem d_Mo_man_74 : dz b_Mo_man 74 (.iload 4) 2 76 := ⟨by decide +kernel, rfl⟩
theorem d_Mo_man_76 : dz b_Mo_man 76 (.iastore) 1 77 := ⟨by decide +kernel, rfl⟩
theorem d_Mo_man_77 : dz b_Mo_man 77 (.aload_n 0) 1 78 := ⟨by decide +kernel, rfl⟩
theorem d_Mo_man_78 : dz b_Mo_man 78 (.dup) 1 79 := ⟨by decide +kernel, rfl⟩
theorem d_Mo_man_79 : dz b_Mo_man 79 (.getfield 1) 3 82 := ⟨by decide +kernel, rfl⟩
theorem d_Mo_man_82 : dz b_Mo_man 82 (.iconst 1) 1 83 := ⟨by decide +kernel, rfl⟩
theorem d_Mo_man_83 : dz b_Mo_man 83 (.iadd) 1 84 := ⟨by decide +kernel, rfl⟩
theorem d_Mo_man_84 : dz b_Mo_man 84 (.putfield 1) 3 87 := ⟨by decide +kernel, rfl⟩
theorem d_Mo_man_87 : dz b_Mo_man 87 (.aload_n 0) 1 88 := ⟨by decide +kernel, rfl⟩
theorem d_Mo_man_88 : dz b_Mo_man 88 (.getfield 1) 3 91 := ⟨by decide +kernel, rfl⟩
theorem d_Mo_man_91 : dz b_Mo_man 91 (.iconst 1) 1 92 := ⟨by decide +kernel, rfl⟩
theorem d_Mo_man_92 : dz b_Mo_man 92 (.isub) 1 93 := ⟨by decide +kernel, rfl⟩
theorem d_Mo_man_93 : dz b_Mo_man 93 (.ireturn) 1 94 := ⟨by decide +kernel, rfl⟩
theorem d_Mo_of_0 : dz b_Mo_of 0 (.aload_n 0) 1 1 := ⟨by decide +kernel, rfl⟩
theorem d_Mo_of_1 : dz b_Mo_of 1 (.iload_n 1) 1 2 := ⟨by decide +kernel, rfl⟩
theorem d_Mo_of_2 : dz b_Mo_of 2 (.invokevirtual 59) 3 5 := ⟨by decide +kernel, rfl⟩
theorem d_Mo_of_5 : dj b_Mo_of 5 (.ifCond .ne) 8 10 := ⟨5, by decide +kernel, rfl, by decide⟩
theorem d_Mo_of_8 : dz b_Mo_of 8 (.iconst (-1)) 1 9 := ⟨by decide +kernel, rfl⟩
theorem d_Mo_of_9 : dz b_Mo_of 9 (.ireturn) 1 10 := ⟨by decide +kernel, rfl⟩
theorem d_Mo_of_10 : dz b_Mo_of 10 (.iload_n 2) 1 11 := ⟨by decide +kernel, rfl⟩
theorem d_Mo_of_11 : dj b_Mo_of 11 (.ifCond .ne) 14 23 := ⟨12, by decide +kernel, rfl, by decide⟩
theorem d_Mo_of_14 : dz b_Mo_of 14 (.aload_n 0) 1 15 := ⟨by decide +kernel, rfl⟩
theorem d_Mo_of_15 : dz b_Mo_of 15 (.getfield 52) 3 18 := ⟨by decide +kernel, rfl⟩
theorem d_Mo_of_18 : dz b_Mo_of 18 (.iload_n 1) 1 19 := ⟨by decide +kernel, rfl⟩
theorem d_Mo_of_19 : dz b_Mo_of 19 (.iaload) 1 20 := ⟨by decide +kernel, rfl⟩
theorem d_Mo_of_20 : dj b_Mo_of 20 (.goto) 23 55 := ⟨35, by decide +kernel, rfl, by decide⟩
theorem d_Mo_of_23 : dz b_Mo_of 23 (.iload_n 2) 1 24 := ⟨by decide +kernel, rfl⟩
theorem d_Mo_of_24 : dz b_Mo_of 24 (.iconst 1) 1 25 := ⟨by decide +kernel, rfl⟩
theorem d_Mo_of_25 : dj b_Mo_of 25 (.if_icmp .ne) 28 37 := ⟨12, by decide +kernel, rfl, by decide⟩
theorem d_Mo_of_28 : dz b_Mo_of 28 (.aload_n 0) 1 29 := ⟨by decide +kernel, rfl⟩
theorem d_Mo_of_29 : dz b_Mo_of 29 (.getfield 56) 3 32 := ⟨by decide +kernel, rfl⟩
theorem d_Mo_of_32 : dz b_Mo_of 32 (.iload_n 1) 1 33 := ⟨by decide +kernel, rfl⟩
theorem d_Mo_of_33 : dz b_Mo_of 33 (.iaload) 1 34 := ⟨by decide +kernel, rfl⟩
theorem d_Mo_of_34 : dj b_Mo_of 34 (.goto) 37 55 := ⟨21, by decide +kernel, rfl, by decide⟩
theorem d_Mo_of_37 : dz b_Mo_of 37 (.iload_n 2) 1 38 := ⟨by decide +kernel, rfl⟩
theorem d_Mo_of_38 : dz b_Mo_of 38 (.iconst 2) 1 39 := ⟨by decide +kernel, rfl⟩
theorem d_Mo_of_39 : dj b_Mo_of 39 (.if_icmp .ne) 42 54 := ⟨15, by decide +kernel, rfl, by decide⟩
theorem d_Mo_of_42 : dz b_Mo_of 42 (.aload_n 0) 1 43 := ⟨by decide +kernel, rfl⟩
theorem d_Mo_of_43 : dz b_Mo_of 43 (.getfield 42) 3 46 := ⟨by decide +kernel, rfl⟩
theorem d_Mo_of_46 : dz b_Mo_of 46 (.iload_n 1) 1 47 := ⟨by decide +kernel, rfl⟩
theorem d_Mo_of_47 : dz b_Mo_of 47 (.laload) 1 48 := ⟨by decide +kernel, rfl⟩
theorem d_Mo_of_48 : dz b_Mo_of 48 (.invokestatic 29) 3 51 := ⟨by decide +kernel, rfl⟩
theorem d_Mo_of_51 : dj b_Mo_of 51 (.goto) 54 55 := ⟨4, by decide +kernel, rfl, by decide⟩
theorem d_Mo_of_54 : dz b_Mo_of 54 (.iconst (-1)) 1 55 := ⟨by decide +kernel, rfl⟩
theorem d_Mo_of_55 : dz b_Mo_of 55 (.ireturn) 1 56 := ⟨by decide +kernel, rfl⟩
theorem d_Mo_sign_0 : dz b_Mo_sign 0 (.iload_n 1) 1 1 := ⟨by decide +kernel, rfl⟩
theorem d_Mo_sign_1 : dz b_Mo_sign 1 (.aload_n 0) 1 2 := ⟨by decide +kernel, rfl⟩
theorem d_Mo_sign_2 : dz b_Mo_sign 2 (.getfield 62) 3 5 := ⟨by decide +kernel, rfl⟩
theorem d_Mo_sign_5 : dj b_Mo_sign 5 (.if_icmp .ge) 8 21 := ⟨16, by decide +kernel, rfl, by decide⟩
theorem d_Mo_sign_8 : dz b_Mo_sign 8 (.aload_n 0) 1 9 := ⟨by decide +kernel, rfl⟩
theorem d_Mo_sign_9 : dz b_Mo_sign 9 (.getfield 65) 3 12 := ⟨by decide +kernel, rfl⟩
theorem d_Mo_sign_12 : dz b_Mo_sign 12 (.iload_n 1) 1 13 := ⟨by decide +kernel, rfl⟩
theorem d_Mo_sign_13 : dz b_Mo_sign 13 (.baload) 1 14 := ⟨by decide +kernel, rfl⟩
theorem d_Mo_sign_14 : dz b_Mo_sign 14 (.sipush 255) 3 17 := ⟨by decide +kernel, rfl⟩
theorem d_Mo_sign_17 : dz b_Mo_sign 17 (.iand) 1 18 := ⟨by decide +kernel, rfl⟩
theorem d_Mo_sign_18 : dj b_Mo_sign 18 (.goto) 21 22 := ⟨4, by decide +kernel, rfl, by decide⟩
theorem d_Mo_sign_21 : dz b_Mo_sign 21 (.iconst 0) 1 22 := ⟨by decide +kernel, rfl⟩
theorem d_Mo_sign_22 : dz b_Mo_sign 22 (.ireturn) 1 23 := ⟨by decide +kernel, rfl⟩
theorem d_Mo_fails_0 : dz b_Mo_fails 0 (.aload_n 0) 1 1 := ⟨by decide +kernel, rfl⟩
theorem d_Mo_fails_1 : dz b_Mo_fails 1 (.getfield 69) 3 4 := ⟨by decide +kernel, rfl⟩
theorem d_Mo_fails_4 : dj b_Mo_fails 4 (.ifCond .le) 7 8 := ⟨4, by decide +kernel, rfl, by decide⟩
theorem d_Mo_fails_7 : dz b_Mo_fails 7 (.return_) 1 8 := ⟨by decide +kernel, rfl⟩
theorem d_Mo_fails_8 : dz b_Mo_fails 8 (.aload_n 0) 1 9 := ⟨by decide +kernel, rfl⟩
theorem d_Mo_fails_9 : dz b_Mo_fails 9 (.iload_n 1) 1 10 := ⟨by decide +kernel, rfl⟩
theorem d_Mo_fails_10 : dz b_Mo_fails 10 (.putfield 69) 3 13 := ⟨by decide +kernel, rfl⟩
theorem d_Mo_fails_13 : dz b_Mo_fails 13 (.aload_n 0) 1 14 := ⟨by decide +kernel, rfl⟩
theorem d_Mo_fails_14 : dz b_Mo_fails 14 (.iload_n 2) 1 15 := ⟨by decide +kernel, rfl⟩
theorem d_Mo_fails_15 : dz b_Mo_fails 15 (.putfield 72) 3 18 := ⟨by decide +kernel, rfl⟩
theorem d_Mo_fails_18 : dz b_Mo_fails 18 (.return_) 1 19 := ⟨by decide +kernel, rfl⟩
theorem d_Mo_isGood_0 : dz b_Mo_isGood 0 (.aload_n 0) 1 1 := ⟨by decide +kernel, rfl⟩
theorem d_Mo_isGood_1 : dz b_Mo_isGood 1 (.getfield 69) 3 4 := ⟨by decide +kernel, rfl⟩
theorem d_Mo_isGood_4 : dj b_Mo_isGood 4 (.ifCond .ne) 7 11 := ⟨7, by decide +kernel, rfl, by decide⟩
theorem d_Mo_isGood_7 : dz b_Mo_isGood 7 (.iconst 1) 1 8 := ⟨by decide +kernel, rfl⟩
theorem d_Mo_isGood_8 : dj b_Mo_isGood 8 (.goto) 11 12 := ⟨4, by decide +kernel, rfl, by decide⟩
theorem d_Mo_isGood_11 : dz b_Mo_isGood 11 (.iconst 0) 1 12 := ⟨by decide +kernel, rfl⟩
theorem d_Mo_isGood_12 : dz b_Mo_isGood 12 (.ireturn) 1 13 := ⟨by decide +kernel, rfl⟩
theorem d_Mo_next_0 : dz b_Mo_next 0 (.aload_n 0) 1 1 := ⟨by decide +kernel, rfl⟩
theorem d_Mo_next_1 : dz b_Mo_next 1 (.aload_n 0) 1 2 := ⟨by decide +kernel, rfl⟩
theorem d_Mo_next_2 : dz b_Mo_next 2 (.getfield 75) 3 5 := ⟨by decide +kernel, rfl⟩
theorem d_Mo_next_5 : dz b_Mo_next 5 (.putfield 78) 3 8 := ⟨by decide +kernel, rfl⟩
theorem d_Mo_next_8 : dz b_Mo_next 8 (.aload_n 0) 1 9 := ⟨by decide +kernel, rfl⟩
theorem d_Mo_next_9 : dz b_Mo_next 9 (.getfield 78) 3 12 := ⟨by decide +kernel, rfl⟩
theorem d_Mo_next_12 : dz b_Mo_next 12 (.aload_n 0) 1 13 := ⟨by decide +kernel, rfl⟩
theorem d_Mo_next_13 : dz b_Mo_next 13 (.getfield 62) 3 16 := ⟨by decide +kernel, rfl⟩
theorem d_Mo_next_16 : dj b_Mo_next 16 (.if_icmp .ge) 19 58 := ⟨42, by decide +kernel, rfl, by decide⟩
theorem d_Mo_next_19 : dz b_Mo_next 19 (.aload_n 0) 1 20 := ⟨by decide +kernel, rfl⟩
theorem d_Mo_next_20 : dz b_Mo_next 20 (.aload_n 0) 1 21 := ⟨by decide +kernel, rfl⟩
theorem d_Mo_next_21 : dz b_Mo_next 21 (.getfield 78) 3 24 := ⟨by decide +kernel, rfl⟩
theorem d_Mo_next_24 : dz b_Mo_next 24 (.invokevirtual 81) 3 27 := ⟨by decide +kernel, rfl⟩
theorem d_Mo_next_27 : dz b_Mo_next 27 (.bipush 32) 2 29 := ⟨by decide +kernel, rfl⟩
theorem d_Mo_next_29 : dj b_Mo_next 29 (.if_icmp .eq) 32 45 := ⟨16, by decide +kernel, rfl, by decide⟩
theorem d_Mo_next_32 : dz b_Mo_next 32 (.aload_n 0) 1 33 := ⟨by decide +kernel, rfl⟩
theorem d_Mo_next_33 : dz b_Mo_next 33 (.aload_n 0) 1 34 := ⟨by decide +kernel, rfl⟩
theorem d_Mo_next_34 : dz b_Mo_next 34 (.getfield 78) 3 37 := ⟨by decide +kernel, rfl⟩
theorem d_Mo_next_37 : dz b_Mo_next 37 (.invokevirtual 81) 3 40 := ⟨by decide +kernel, rfl⟩
theorem d_Mo_next_40 : dz b_Mo_next 40 (.bipush 10) 2 42 := ⟨by decide +kernel, rfl⟩
theorem d_Mo_next_42 : dj b_Mo_next 42 (.if_icmp .ne) 45 58 := ⟨16, by decide +kernel, rfl, by decide⟩
theorem d_Mo_next_45 : dz b_Mo_next 45 (.aload_n 0) 1 46 := ⟨by decide +kernel, rfl⟩
theorem d_Mo_next_46 : dz b_Mo_next 46 (.dup) 1 47 := ⟨by decide +kernel, rfl⟩
theorem d_Mo_next_47 : dz b_Mo_next 47 (.getfield 78) 3 50 := ⟨by decide +kernel, rfl⟩
theorem d_Mo_next_50 : dz b_Mo_next 50 (.iconst 1) 1 51 := ⟨by decide +kernel, rfl⟩
theorem d_Mo_next_51 : dz b_Mo_next 51 (.iadd) 1 52 := ⟨by decide +kernel, rfl⟩
theorem d_Mo_next_52 : dz b_Mo_next 52 (.putfield 78) 3 55 := ⟨by decide +kernel, rfl⟩
theorem d_Mo_next_55 : dj b_Mo_next 55 (.goto) 58 8 := ⟨(-47), by decide +kernel, rfl, by decide⟩
theorem d_Mo_next_58 : dz b_Mo_next 58 (.aload_n 0) 1 59 := ⟨by decide +kernel, rfl⟩
theorem d_Mo_next_59 : dz b_Mo_next 59 (.aload_n 0) 1 60 := ⟨by decide +kernel, rfl⟩
theorem d_Mo_next_60 : dz b_Mo_next 60 (.getfield 78) 3 63 := ⟨by decide +kernel, rfl⟩
theorem d_Mo_next_63 : dz b_Mo_next 63 (.invokevirtual 81) 3 66 := ⟨by decide +kernel, rfl⟩
theorem d_Mo_next_66 : dz b_Mo_next 66 (.istore_n 1) 1 67 := ⟨by decide +kernel, rfl⟩
theorem d_Mo_next_67 : dz b_Mo_next 67 (.aload_n 0) 1 68 := ⟨by decide +kernel, rfl⟩
theorem d_Mo_next_68 : dz b_Mo_next 68 (.aload_n 0) 1 69 := ⟨by decide +kernel, rfl⟩
theorem d_Mo_next_69 : dz b_Mo_next 69 (.getfield 78) 3 72 := ⟨by decide +kernel, rfl⟩
theorem d_Mo_next_72 : dz b_Mo_next 72 (.iconst 1) 1 73 := ⟨by decide +kernel, rfl⟩
theorem d_Mo_next_73 : dz b_Mo_next 73 (.iadd) 1 74 := ⟨by decide +kernel, rfl⟩
theorem d_Mo_next_74 : dz b_Mo_next 74 (.putfield 75) 3 77 := ⟨by decide +kernel, rfl⟩
theorem d_Mo_next_77 : dz b_Mo_next 77 (.aload_n 0) 1 78 := ⟨by decide +kernel, rfl⟩
theorem d_Mo_next_78 : dz b_Mo_next 78 (.getfield 78) 3 81 := ⟨by decide +kernel, rfl⟩
theorem d_Mo_next_81 : dz b_Mo_next 81 (.aload_n 0) 1 82 := ⟨by decide +kernel, rfl⟩
theorem d_Mo_next_82 : dz b_Mo_next 82 (.getfield 62) 3 85 := ⟨by decide +kernel, rfl⟩
theorem d_Mo_next_85 : dj b_Mo_next 85 (.if_icmp .lt) 88 112 := ⟨27, by decide +kernel, rfl, by decide⟩
theorem d_Mo_next_88 : dz b_Mo_next 88 (.aload_n 0) 1 89 := ⟨by decide +kernel, rfl⟩
theorem d_Mo_next_89 : dz b_Mo_next 89 (.iconst 0) 1 90 := ⟨by decide +kernel, rfl⟩
theorem d_Mo_next_90 : dz b_Mo_next 90 (.putfield 85) 3 93 := ⟨by decide +kernel, rfl⟩
theorem d_Mo_next_93 : dz b_Mo_next 93 (.aload_n 0) 1 94 := ⟨by decide +kernel, rfl⟩
theorem d_Mo_next_94 : dz b_Mo_next 94 (.aload_n 0) 1 95 := ⟨by decide +kernel, rfl⟩
theorem d_Mo_next_95 : dz b_Mo_next 95 (.getfield 62) 3 98 := ⟨by decide +kernel, rfl⟩
theorem d_Mo_next_98 : dz b_Mo_next 98 (.putfield 78) 3 101 := ⟨by decide +kernel, rfl⟩
theorem d_Mo_next_101 : dz b_Mo_next 101 (.aload_n 0) 1 102 := ⟨by decide +kernel, rfl⟩
theorem d_Mo_next_102 : dz b_Mo_next 102 (.aload_n 0) 1 103 := ⟨by decide +kernel, rfl⟩
theorem d_Mo_next_103 : dz b_Mo_next 103 (.getfield 62) 3 106 := ⟨by decide +kernel, rfl⟩
theorem d_Mo_next_106 : dz b_Mo_next 106 (.putfield 75) 3 109 := ⟨by decide +kernel, rfl⟩
theorem d_Mo_next_109 : dj b_Mo_next 109 (.goto) 112 388 := ⟨279, by decide +kernel, rfl, by decide⟩
theorem d_Mo_next_112 : dz b_Mo_next 112 (.iload_n 1) 1 113 := ⟨by decide +kernel, rfl⟩
theorem d_Mo_next_113 : dz b_Mo_next 113 (.invokestatic 34) 3 116 := ⟨by decide +kernel, rfl⟩
theorem d_Mo_next_116 : dj b_Mo_next 116 (.ifCond .eq) 119 239 := ⟨123, by decide +kernel, rfl, by decide⟩
theorem d_Mo_next_119 : dz b_Mo_next 119 (.aload_n 0) 1 120 := ⟨by decide +kernel, rfl⟩
theorem d_Mo_next_120 : dz b_Mo_next 120 (.aload_n 0) 1 121 := ⟨by decide +kernel, rfl⟩
theorem d_Mo_next_121 : dz b_Mo_next 121 (.getfield 75) 3 124 := ⟨by decide +kernel, rfl⟩
theorem d_Mo_next_124 : dz b_Mo_next 124 (.invokevirtual 81) 3 127 := ⟨by decide +kernel, rfl⟩
theorem d_Mo_next_127 : dz b_Mo_next 127 (.invokestatic 34) 3 130 := ⟨by decide +kernel, rfl⟩
theorem d_Mo_next_130 : dj b_Mo_next 130 (.ifCond .eq) 133 146 := ⟨16, by decide +kernel, rfl, by decide⟩
theorem d_Mo_next_133 : dz b_Mo_next 133 (.aload_n 0) 1 134 := ⟨by decide +kernel, rfl⟩
theorem d_Mo_next_134 : dz b_Mo_next 134 (.dup) 1 135 := ⟨by decide +kernel, rfl⟩
theorem d_Mo_next_135 : dz b_Mo_next 135 (.getfield 75) 3 138 := ⟨by decide +kernel, rfl⟩
theorem d_Mo_next_138 : dz b_Mo_next 138 (.iconst 1) 1 139 := ⟨by decide +kernel, rfl⟩
theorem d_Mo_next_139 : dz b_Mo_next 139 (.iadd) 1 140 := ⟨by decide +kernel, rfl⟩
theorem d_Mo_next_140 : dz b_Mo_next 140 (.putfield 75) 3 143 := ⟨by decide +kernel, rfl⟩
theorem d_Mo_next_143 : dj b_Mo_next 143 (.goto) 146 119 := ⟨(-24), by decide +kernel, rfl, by decide⟩
theorem d_Mo_next_146 : dz b_Mo_next 146 (.aload_n 0) 1 147 := ⟨by decide +kernel, rfl⟩
theorem d_Mo_next_147 : dz b_Mo_next 147 (.lconst 0) 1 148 := ⟨by decide +kernel, rfl⟩
theorem d_Mo_next_148 : dz b_Mo_next 148 (.putfield 88) 3 151 := ⟨by decide +kernel, rfl⟩
theorem d_Mo_next_151 : dz b_Mo_next 151 (.aload_n 0) 1 152 := ⟨by decide +kernel, rfl⟩
theorem d_Mo_next_152 : dz b_Mo_next 152 (.getfield 78) 3 155 := ⟨by decide +kernel, rfl⟩
theorem d_Mo_next_155 : dz b_Mo_next 155 (.istore_n 2) 1 156 := ⟨by decide +kernel, rfl⟩
theorem d_Mo_next_156 : dz b_Mo_next 156 (.iload_n 2) 1 157 := ⟨by decide +kernel, rfl⟩
theorem d_Mo_next_157 : dz b_Mo_next 157 (.aload_n 0) 1 158 := ⟨by decide +kernel, rfl⟩
theorem d_Mo_next_158 : dz b_Mo_next 158 (.getfield 75) 3 161 := ⟨by decide +kernel, rfl⟩
theorem d_Mo_next_161 : dj b_Mo_next 161 (.if_icmp .ge) 164 199 := ⟨38, by decide +kernel, rfl, by decide⟩
theorem d_Mo_next_164 : dz b_Mo_next 164 (.iload_n 2) 1 165 := ⟨by decide +kernel, rfl⟩
theorem d_Mo_next_165 : dz b_Mo_next 165 (.aload_n 0) 1 166 := ⟨by decide +kernel, rfl⟩
theorem d_Mo_next_166 : dz b_Mo_next 166 (.getfield 78) 3 169 := ⟨by decide +kernel, rfl⟩
theorem d_Mo_next_169 : dz b_Mo_next 169 (.bipush 8) 2 171 := ⟨by decide +kernel, rfl⟩
theorem d_Mo_next_171 : dz b_Mo_next 171 (.iadd) 1 172 := ⟨by decide +kernel, rfl⟩
theorem d_Mo_next_172 : dj b_Mo_next 172 (.if_icmp .ge) 175 199 := ⟨27, by decide +kernel, rfl, by decide⟩
theorem d_Mo_next_175 : dz b_Mo_next 175 (.aload_n 0) 1 176 := ⟨by decide +kernel, rfl⟩
theorem d_Mo_next_176 : dz b_Mo_next 176 (.aload_n 0) 1 177 := ⟨by decide +kernel, rfl⟩
theorem d_Mo_next_177 : dz b_Mo_next 177 (.getfield 88) 3 180 := ⟨by decide +kernel, rfl⟩
theorem d_Mo_next_180 : dz b_Mo_next 180 (.bipush 8) 2 182 := ⟨by decide +kernel, rfl⟩
theorem d_Mo_next_182 : dz b_Mo_next 182 (.lshl) 1 183 := ⟨by decide +kernel, rfl⟩
theorem d_Mo_next_183 : dz b_Mo_next 183 (.aload_n 0) 1 184 := ⟨by decide +kernel, rfl⟩
theorem d_Mo_next_184 : dz b_Mo_next 184 (.iload_n 2) 1 185 := ⟨by decide +kernel, rfl⟩
theorem d_Mo_next_185 : dz b_Mo_next 185 (.invokevirtual 81) 3 188 := ⟨by decide +kernel, rfl⟩
theorem d_Mo_next_188 : dz b_Mo_next 188 (.i2l) 1 189 := ⟨by decide +kernel, rfl⟩
theorem d_Mo_next_189 : dz b_Mo_next 189 (.lor) 1 190 := ⟨by decide +kernel, rfl⟩
theorem d_Mo_next_190 : dz b_Mo_next 190 (.putfield 88) 3 193 := ⟨by decide +kernel, rfl⟩
theorem d_Mo_next_193 : dz b_Mo_next 193 (.iinc 2 1) 3 196 := ⟨by decide +kernel, rfl⟩
theorem d_Mo_next_196 : dj b_Mo_next 196 (.goto) 199 156 := ⟨(-40), by decide +kernel, rfl, by decide⟩
theorem d_Mo_next_199 : dz b_Mo_next 199 (.aload_n 0) 1 200 := ⟨by decide +kernel, rfl⟩
theorem d_Mo_next_200 : dz b_Mo_next 200 (.aload_n 0) 1 201 := ⟨by decide +kernel, rfl⟩
theorem d_Mo_next_201 : dz b_Mo_next 201 (.getfield 75) 3 204 := ⟨by decide +kernel, rfl⟩
theorem d_Mo_next_204 : dz b_Mo_next 204 (.aload_n 0) 1 205 := ⟨by decide +kernel, rfl⟩
theorem d_Mo_next_205 : dz b_Mo_next 205 (.getfield 78) 3 208 := ⟨by decide +kernel, rfl⟩
theorem d_Mo_next_208 : dz b_Mo_next 208 (.isub) 1 209 := ⟨by decide +kernel, rfl⟩
theorem d_Mo_next_209 : dz b_Mo_next 209 (.bipush 8) 2 211 := ⟨by decide +kernel, rfl⟩
theorem d_Mo_next_211 : dj b_Mo_next 211 (.if_icmp .le) 214 218 := ⟨7, by decide +kernel, rfl, by decide⟩
theorem d_Mo_next_214 : dz b_Mo_next 214 (.iconst 1) 1 215 := ⟨by decide +kernel, rfl⟩
theorem d_Mo_next_215 : dj b_Mo_next 215 (.goto) 218 233 := ⟨18, by decide +kernel, rfl, by decide⟩
theorem d_Mo_next_218 : dz b_Mo_next 218 (.aload_n 0) 1 219 := ⟨by decide +kernel, rfl⟩
theorem d_Mo_next_219 : dz b_Mo_next 219 (.getfield 88) 3 222 := ⟨by decide +kernel, rfl⟩
theorem d_Mo_next_222 : dz b_Mo_next 222 (.invokestatic 38) 3 225 := ⟨by decide +kernel, rfl⟩
theorem d_Mo_next_225 : dj b_Mo_next 225 (.ifCond .eq) 228 232 := ⟨7, by decide +kernel, rfl, by decide⟩
theorem d_Mo_next_228 : dz b_Mo_next 228 (.iconst 3) 1 229 := ⟨by decide +kernel, rfl⟩
theorem d_Mo_next_229 : dj b_Mo_next 229 (.goto) 232 233 := ⟨4, by decide +kernel, rfl, by decide⟩
theorem d_Mo_next_232 : dz b_Mo_next 232 (.iconst 2) 1 233 := ⟨by decide +kernel, rfl⟩
theorem d_Mo_next_233 : dz b_Mo_next 233 (.putfield 85) 3 236 := ⟨by decide +kernel, rfl⟩
theorem d_Mo_next_236 : dj b_Mo_next 236 (.goto) 239 388 := ⟨152, by decide +kernel, rfl, by decide⟩
theorem d_Mo_next_239 : dz b_Mo_next 239 (.iload_n 1) 1 240 := ⟨by decide +kernel, rfl⟩
theorem d_Mo_next_240 : dz b_Mo_next 240 (.invokestatic 92) 3 243 := ⟨by decide +kernel, rfl⟩
theorem d_Mo_next_243 : dj b_Mo_next 243 (.ifCond .eq) 246 361 := ⟨118, by decide +kernel, rfl, by decide⟩
theorem d_Mo_next_246 : dz b_Mo_next 246 (.aload_n 0) 1 247 := ⟨by decide +kernel, rfl⟩
theorem d_Mo_next_247 : dz b_Mo_next 247 (.iconst 0) 1 248 := ⟨by decide +kernel, rfl⟩
theorem d_Mo_next_248 : dz b_Mo_next 248 (.putfield 95) 3 251 := ⟨by decide +kernel, rfl⟩
theorem d_Mo_next_251 : dz b_Mo_next 251 (.aload_n 0) 1 252 := ⟨by decide +kernel, rfl⟩
theorem d_Mo_next_252 : dz b_Mo_next 252 (.aload_n 0) 1 253 := ⟨by decide +kernel, rfl⟩
theorem d_Mo_next_253 : dz b_Mo_next 253 (.getfield 78) 3 256 := ⟨by decide +kernel, rfl⟩
theorem d_Mo_next_256 : dz b_Mo_next 256 (.putfield 75) 3 259 := ⟨by decide +kernel, rfl⟩
theorem d_Mo_next_259 : dz b_Mo_next 259 (.aload_n 0) 1 260 := ⟨by decide +kernel, rfl⟩
theorem d_Mo_next_260 : dz b_Mo_next 260 (.aload_n 0) 1 261 := ⟨by decide +kernel, rfl⟩
theorem d_Mo_next_261 : dz b_Mo_next 261 (.getfield 75) 3 264 := ⟨by decide +kernel, rfl⟩
theorem d_Mo_next_264 : dz b_Mo_next 264 (.invokevirtual 81) 3 267 := ⟨by decide +kernel, rfl⟩
theorem d_Mo_next_267 : dz b_Mo_next 267 (.invokestatic 92) 3 270 := ⟨by decide +kernel, rfl⟩
theorem d_Mo_next_270 : dj b_Mo_next 270 (.ifCond .eq) 273 322 := ⟨52, by decide +kernel, rfl, by decide⟩
theorem d_Mo_next_273 : dz b_Mo_next 273 (.aload_n 0) 1 274 := ⟨by decide +kernel, rfl⟩
theorem d_Mo_next_274 : dz b_Mo_next 274 (.getfield 75) 3 277 := ⟨by decide +kernel, rfl⟩
theorem d_Mo_next_277 : dz b_Mo_next 277 (.aload_n 0) 1 278 := ⟨by decide +kernel, rfl⟩
theorem d_Mo_next_278 : dz b_Mo_next 278 (.getfield 78) 3 281 := ⟨by decide +kernel, rfl⟩
theorem d_Mo_next_281 : dz b_Mo_next 281 (.isub) 1 282 := ⟨by decide +kernel, rfl⟩
theorem d_Mo_next_282 : dz b_Mo_next 282 (.iconst 4) 1 283 := ⟨by decide +kernel, rfl⟩
theorem d_Mo_next_283 : dj b_Mo_next 283 (.if_icmp .ge) 286 309 := ⟨26, by decide +kernel, rfl, by decide⟩
theorem d_Mo_next_286 : dz b_Mo_next 286 (.aload_n 0) 1 287 := ⟨by decide +kernel, rfl⟩
theorem d_Mo_next_287 : dz b_Mo_next 287 (.bipush 10) 2 289 := ⟨by decide +kernel, rfl⟩
theorem d_Mo_next_289 : dz b_Mo_next 289 (.aload_n 0) 1 290 := ⟨by decide +kernel, rfl⟩
theorem d_Mo_next_290 : dz b_Mo_next 290 (.getfield 95) 3 293 := ⟨by decide +kernel, rfl⟩
theorem d_Mo_next_293 : dz b_Mo_next 293 (.imul) 1 294 := ⟨by decide +kernel, rfl⟩
theorem d_Mo_next_294 : dz b_Mo_next 294 (.aload_n 0) 1 295 := ⟨by decide +kernel, rfl⟩
theorem d_Mo_next_295 : dz b_Mo_next 295 (.aload_n 0) 1 296 := ⟨by decide +kernel, rfl⟩
theorem d_Mo_next_296 : dz b_Mo_next 296 (.getfield 75) 3 299 := ⟨by decide +kernel, rfl⟩
theorem d_Mo_next_299 : dz b_Mo_next 299 (.invokevirtual 81) 3 302 := ⟨by decide +kernel, rfl⟩
theorem d_Mo_next_302 : dz b_Mo_next 302 (.iadd) 1 303 := ⟨by decide +kernel, rfl⟩
theorem d_Mo_next_303 : dz b_Mo_next 303 (.bipush 48) 2 305 := ⟨by decide +kernel, rfl⟩
theorem d_Mo_next_305 : dz b_Mo_next 305 (.isub) 1 306 := ⟨by decide +kernel, rfl⟩
theorem d_Mo_next_306 : dz b_Mo_next 306 (.putfield 95) 3 309 := ⟨by decide +kernel, rfl⟩
theorem d_Mo_next_309 : dz b_Mo_next 309 (.aload_n 0) 1 310 := ⟨by decide +kernel, rfl⟩
theorem d_Mo_next_310 : dz b_Mo_next 310 (.dup) 1 311 := ⟨by decide +kernel, rfl⟩
theorem d_Mo_next_311 : dz b_Mo_next 311 (.getfield 75) 3 314 := ⟨by decide +kernel, rfl⟩
theorem d_Mo_next_314 : dz b_Mo_next 314 (.iconst 1) 1 315 := ⟨by decide +kernel, rfl⟩
theorem d_Mo_next_315 : dz b_Mo_next 315 (.iadd) 1 316 := ⟨by decide +kernel, rfl⟩
theorem d_Mo_next_316 : dz b_Mo_next 316 (.putfield 75) 3 319 := ⟨by decide +kernel, rfl⟩
theorem d_Mo_next_319 : dj b_Mo_next 319 (.goto) 322 259 := ⟨(-60), by decide +kernel, rfl, by decide⟩
theorem d_Mo_next_322 : dz b_Mo_next 322 (.aload_n 0) 1 323 := ⟨by decide +kernel, rfl⟩
theorem d_Mo_next_323 : dz b_Mo_next 323 (.aload_n 0) 1 324 := ⟨by decide +kernel, rfl⟩
theorem d_Mo_next_324 : dz b_Mo_next 324 (.getfield 75) 3 327 := ⟨by decide +kernel, rfl⟩
theorem d_Mo_next_327 : dz b_Mo_next 327 (.aload_n 0) 1 328 := ⟨by decide +kernel, rfl⟩
theorem d_Mo_next_328 : dz b_Mo_next 328 (.getfield 78) 3 331 := ⟨by decide +kernel, rfl⟩
theorem d_Mo_next_331 : dz b_Mo_next 331 (.isub) 1 332 := ⟨by decide +kernel, rfl⟩
theorem d_Mo_next_332 : dz b_Mo_next 332 (.iconst 4) 1 333 := ⟨by decide +kernel, rfl⟩
theorem d_Mo_next_333 : dj b_Mo_next 333 (.if_icmp .gt) 336 350 := ⟨17, by decide +kernel, rfl, by decide⟩
theorem d_Mo_next_336 : dz b_Mo_next 336 (.aload_n 0) 1 337 := ⟨by decide +kernel, rfl⟩
theorem d_Mo_next_337 : dz b_Mo_next 337 (.aload_n 0) 1 338 := ⟨by decide +kernel, rfl⟩
theorem d_Mo_next_338 : dz b_Mo_next 338 (.getfield 75) 3 341 := ⟨by decide +kernel, rfl⟩
theorem d_Mo_next_341 : dz b_Mo_next 341 (.invokevirtual 81) 3 344 := ⟨by decide +kernel, rfl⟩
theorem d_Mo_next_344 : dz b_Mo_next 344 (.invokestatic 34) 3 347 := ⟨by decide +kernel, rfl⟩
theorem d_Mo_next_347 : dj b_Mo_next 347 (.ifCond .eq) 350 354 := ⟨7, by decide +kernel, rfl, by decide⟩
theorem d_Mo_next_350 : dz b_Mo_next 350 (.iconst 1) 1 351 := ⟨by decide +kernel, rfl⟩
theorem d_Mo_next_351 : dj b_Mo_next 351 (.goto) 354 355 := ⟨4, by decide +kernel, rfl, by decide⟩
theorem d_Mo_next_354 : dz b_Mo_next 354 (.iconst 4) 1 355 := ⟨by decide +kernel, rfl⟩
theorem d_Mo_next_355 : dz b_Mo_next 355 (.putfield 85) 3 358 := ⟨by decide +kernel, rfl⟩
theorem d_Mo_next_358 : dj b_Mo_next 358 (.goto) 361 388 := ⟨30, by decide +kernel, rfl, by decide⟩
theorem d_Mo_next_361 : dz b_Mo_next 361 (.aload_n 0) 1 362 := ⟨by decide +kernel, rfl⟩
theorem d_Mo_next_362 : dz b_Mo_next 362 (.iload_n 1) 1 363 := ⟨by decide +kernel, rfl⟩
theorem d_Mo_next_363 : dz b_Mo_next 363 (.bipush 58) 2 365 := ⟨by decide +kernel, rfl⟩
theorem d_Mo_next_365 : dj b_Mo_next 365 (.if_icmp .eq) 368 380 := ⟨15, by decide +kernel, rfl, by decide⟩
theorem d_Mo_next_368 : dz b_Mo_next 368 (.iload_n 1) 1 369 := ⟨by decide +kernel, rfl⟩
theorem d_Mo_next_369 : dz b_Mo_next 369 (.bipush 59) 2 371 := ⟨by decide +kernel, rfl⟩
theorem d_Mo_next_371 : dj b_Mo_next 371 (.if_icmp .eq) 374 380 := ⟨9, by decide +kernel, rfl, by decide⟩
theorem d_Mo_next_374 : dz b_Mo_next 374 (.iload_n 1) 1 375 := ⟨by decide +kernel, rfl⟩
theorem d_Mo_next_375 : dz b_Mo_next 375 (.bipush 63) 2 377 := ⟨by decide +kernel, rfl⟩
theorem d_Mo_next_377 : dj b_Mo_next 377 (.if_icmp .ne) 380 384 := ⟨7, by decide +kernel, rfl, by decide⟩
theorem d_Mo_next_380 : dz b_Mo_next 380 (.iconst 5) 1 381 := ⟨by decide +kernel, rfl⟩
theorem d_Mo_next_381 : dj b_Mo_next 381 (.goto) 384 385 := ⟨4, by decide +kernel, rfl, by decide⟩
theorem d_Mo_next_384 : dz b_Mo_next 384 (.iconst 1) 1 385 := ⟨by decide +kernel, rfl⟩
theorem d_Mo_next_385 : dz b_Mo_next 385 (.putfield 85) 3 388 := ⟨by decide +kernel, rfl⟩
theorem d_Mo_next_388 : dz b_Mo_next 388 (.return_) 1 389 := ⟨by decide +kernel, rfl⟩
theorem d_Mo_is_0 : dz b_Mo_is 0 (.aload_n 0) 1 1 := ⟨by decide +kernel, rfl⟩
theorem d_Mo_is_1 : dz b_Mo_is 1 (.getfield 85) 3 4 := ⟨by decide +kernel, rfl⟩
theorem d_Mo_is_4 : dz b_Mo_is 4 (.iconst 5) 1 5 := ⟨by decide +kernel, rfl⟩
theorem d_Mo_is_5 : dj b_Mo_is 5 (.if_icmp .ne) 8 24 := ⟨19, by decide +kernel, rfl, by decide⟩
theorem d_Mo_is_8 : dz b_Mo_is 8 (.aload_n 0) 1 9 := ⟨by decide +kernel, rfl⟩
theorem d_Mo_is_9 : dz b_Mo_is 9 (.aload_n 0) 1 10 := ⟨by decide +kernel, rfl⟩
theorem d_Mo_is_10 : dz b_Mo_is 10 (.getfield 78) 3 13 := ⟨by decide +kernel, rfl⟩
theorem d_Mo_is_13 : dz b_Mo_is 13 (.invokevirtual 81) 3 16 := ⟨by decide +kernel, rfl⟩
theorem d_Mo_is_16 : dz b_Mo_is 16 (.iload_n 1) 1 17 := ⟨by decide +kernel, rfl⟩
theorem d_Mo_is_17 : dj b_Mo_is 17 (.if_icmp .ne) 20 24 := ⟨7, by decide +kernel, rfl, by decide⟩
theorem d_Mo_is_20 : dz b_Mo_is 20 (.iconst 1) 1 21 := ⟨by decide +kernel, rfl⟩
theorem d_Mo_is_21 : dj b_Mo_is 21 (.goto) 24 25 := ⟨4, by decide +kernel, rfl, by decide⟩
theorem d_Mo_is_24 : dz b_Mo_is 24 (.iconst 0) 1 25 := ⟨by decide +kernel, rfl⟩
theorem d_Mo_is_25 : dz b_Mo_is 25 (.ireturn) 1 26 := ⟨by decide +kernel, rfl⟩
theorem d_Mo_isWord_0 : dz b_Mo_isWord 0 (.aload_n 0) 1 1 := ⟨by decide +kernel, rfl⟩
theorem d_Mo_isWord_1 : dz b_Mo_isWord 1 (.getfield 85) 3 4 := ⟨by decide +kernel, rfl⟩
theorem d_Mo_isWord_4 : dz b_Mo_isWord 4 (.iconst 3) 1 5 := ⟨by decide +kernel, rfl⟩
theorem d_Mo_isWord_5 : dj b_Mo_isWord 5 (.if_icmp .ne) 8 21 := ⟨16, by decide +kernel, rfl, by decide⟩
theorem d_Mo_isWord_8 : dz b_Mo_isWord 8 (.aload_n 0) 1 9 := ⟨by decide +kernel, rfl⟩
theorem d_Mo_isWord_9 : dz b_Mo_isWord 9 (.getfield 88) 3 12 := ⟨by decide +kernel, rfl⟩
theorem d_Mo_isWord_12 : dz b_Mo_isWord 12 (.lload_n 1) 1 13 := ⟨by decide +kernel, rfl⟩
theorem d_Mo_isWord_13 : dz b_Mo_isWord 13 (.lcmp) 1 14 := ⟨by decide +kernel, rfl⟩
theorem d_Mo_isWord_14 : dj b_Mo_isWord 14 (.ifCond .ne) 17 21 := ⟨7, by decide +kernel, rfl, by decide⟩
theorem d_Mo_isWord_17 : dz b_Mo_isWord 17 (.iconst 1) 1 18 := ⟨by decide +kernel, rfl⟩
theorem d_Mo_isWord_18 : dj b_Mo_isWord 18 (.goto) 21 22 := ⟨4, by decide +kernel, rfl, by decide⟩
theorem d_Mo_isWord_21 : dz b_Mo_isWord 21 (.iconst 0) 1 22 := ⟨by decide +kernel, rfl⟩
theorem d_Mo_isWord_22 : dz b_Mo_isWord 22 (.ireturn) 1 23 := ⟨by decide +kernel, rfl⟩
theorem d_Mo_wrong_0 : dz b_Mo_wrong 0 (.aload_n 0) 1 1 := ⟨by decide +kernel, rfl⟩
theorem d_Mo_wrong_1 : dz b_Mo_wrong 1 (.aload_n 0) 1 2 := ⟨by decide +kernel, rfl⟩
theorem d_Mo_wrong_2 : dz b_Mo_wrong 2 (.getfield 85) 3 5 := ⟨by decide +kernel, rfl⟩
theorem d_Mo_wrong_5 : dz b_Mo_wrong 5 (.iconst 1) 1 6 := ⟨by decide +kernel, rfl⟩
theorem d_Mo_wrong_6 : dj b_Mo_wrong 6 (.if_icmp .ne) 9 13 := ⟨7, by decide +kernel, rfl, by decide⟩
theorem d_Mo_wrong_9 : dz b_Mo_wrong 9 (.iconst 1) 1 10 := ⟨by decide +kernel, rfl⟩
theorem d_Mo_wrong_10 : dj b_Mo_wrong 10 (.goto) 13 14 := ⟨4, by decide +kernel, rfl, by decide⟩
theorem d_Mo_wrong_13 : dz b_Mo_wrong 13 (.iconst 2) 1 14 := ⟨by decide +kernel, rfl⟩
theorem d_Mo_wrong_14 : dz b_Mo_wrong 14 (.aload_n 0) 1 15 := ⟨by decide +kernel, rfl⟩
theorem d_Mo_wrong_15 : dz b_Mo_wrong 15 (.getfield 78) 3 18 := ⟨by decide +kernel, rfl⟩
theorem d_Mo_wrong_18 : dz b_Mo_wrong 18 (.invokevirtual 98) 3 21 := ⟨by decide +kernel, rfl⟩
theorem d_Mo_wrong_21 : dz b_Mo_wrong 21 (.return_) 1 22 := ⟨by decide +kernel, rfl⟩
theorem d_Mo_must_0 : dz b_Mo_must 0 (.aload_n 0) 1 1 := ⟨by decide +kernel, rfl⟩
theorem d_Mo_must_1 : dz b_Mo_must 1 (.invokevirtual 102) 3 4 := ⟨by decide +kernel, rfl⟩
theorem d_Mo_must_4 : dj b_Mo_must 4 (.ifCond .ne) 7 8 := ⟨4, by decide +kernel, rfl, by decide⟩
theorem d_Mo_must_7 : dz b_Mo_must 7 (.return_) 1 8 := ⟨by decide +kernel, rfl⟩
theorem d_Mo_must_8 : dz b_Mo_must 8 (.iload_n 1) 1 9 := ⟨by decide +kernel, rfl⟩
theorem d_Mo_must_9 : dj b_Mo_must 9 (.ifCond .eq) 12 19 := ⟨10, by decide +kernel, rfl, by decide⟩
theorem d_Mo_must_12 : dz b_Mo_must 12 (.aload_n 0) 1 13 := ⟨by decide +kernel, rfl⟩
theorem d_Mo_must_13 : dz b_Mo_must 13 (.invokevirtual 106) 3 16 := ⟨by decide +kernel, rfl⟩
theorem d_Mo_must_16 : dj b_Mo_must 16 (.goto) 19 23 := ⟨7, by decide +kernel, rfl, by decide⟩
theorem d_Mo_must_19 : dz b_Mo_must 19 (.aload_n 0) 1 20 := ⟨by decide +kernel, rfl⟩
theorem d_Mo_must_20 : dz b_Mo_must 20 (.invokevirtual 110) 3 23 := ⟨by decide +kernel, rfl⟩
theorem d_Mo_must_23 : dz b_Mo_must 23 (.return_) 1 24 := ⟨by decide +kernel, rfl⟩
theorem d_Mo_flake_0 : dz b_Mo_flake 0 (.aload_n 0) 1 1 := ⟨by decide +kernel, rfl⟩
theorem d_Mo_flake_1 : dz b_Mo_flake 1 (.getfield 113) 3 4 := ⟨by decide +kernel, rfl⟩
theorem d_Mo_flake_4 : dz b_Mo_flake 4 (.bipush 40) 2 6 := ⟨by decide +kernel, rfl⟩
theorem d_Mo_flake_6 : dj b_Mo_flake 6 (.if_icmp .ne) 9 12 := ⟨6, by decide +kernel, rfl, by decide⟩
theorem d_Mo_flake_9 : dz b_Mo_flake 9 (.bipush (-2)) 2 11 := ⟨by decide +kernel, rfl⟩
theorem d_Mo_flake_11 : dz b_Mo_flake 11 (.ireturn) 1 12 := ⟨by decide +kernel, rfl⟩
theorem d_Mo_flake_12 : dz b_Mo_flake 12 (.aload_n 0) 1 13 := ⟨by decide +kernel, rfl⟩
theorem d_Mo_flake_13 : dz b_Mo_flake 13 (.iconst 0) 1 14 := ⟨by decide +kernel, rfl⟩
theorem d_Mo_flake_14 : dz b_Mo_flake 14 (.putfield 69) 3 17 := ⟨by decide +kernel, rfl⟩
theorem d_Mo_flake_17 : dz b_Mo_flake 17 (.aload_n 0) 1 18 := ⟨by decide +kernel, rfl⟩
theorem d_Mo_flake_18 : dz b_Mo_flake 18 (.iconst (-1)) 1 19 := ⟨by decide +kernel, rfl⟩
theorem d_Mo_flake_19 : dz b_Mo_flake 19 (.putfield 72) 3 22 := ⟨by decide +kernel, rfl⟩
theorem d_Mo_flake_22 : dz b_Mo_flake 22 (.aload_n 0) 1 23 := ⟨by decide +kernel, rfl⟩
theorem d_Mo_flake_23 : dz b_Mo_flake 23 (.aload_n 0) 1 24 := ⟨by decide +kernel, rfl⟩
theorem d_Mo_flake_24 : dz b_Mo_flake 24 (.getfield 116) 3 27 := ⟨by decide +kernel, rfl⟩
theorem d_Mo_flake_27 : dz b_Mo_flake 27 (.putfield 62) 3 30 := ⟨by decide +kernel, rfl⟩
theorem d_Mo_flake_30 : dz b_Mo_flake 30 (.iconst 0) 1 31 := ⟨by decide +kernel, rfl⟩
theorem d_Mo_flake_31 : dz b_Mo_flake 31 (.istore_n 1) 1 32 := ⟨by decide +kernel, rfl⟩
theorem d_Mo_flake_32 : dz b_Mo_flake 32 (.iload_n 1) 1 33 := ⟨by decide +kernel, rfl⟩
theorem d_Mo_flake_33 : dz b_Mo_flake 33 (.aload_n 0) 1 34 := ⟨by decide +kernel, rfl⟩
theorem d_Mo_flake_34 : dz b_Mo_flake 34 (.getfield 62) 3 37 := ⟨by decide +kernel, rfl⟩
theorem d_Mo_flake_37 : dj b_Mo_flake 37 (.if_icmp .ge) 40 58 := ⟨21, by decide +kernel, rfl, by decide⟩
theorem d_Mo_flake_40 : dz b_Mo_flake 40 (.aload_n 0) 1 41 := ⟨by decide +kernel, rfl⟩
theorem d_Mo_flake_41 : dz b_Mo_flake 41 (.getfield 65) 3 44 := ⟨by decide +kernel, rfl⟩
theorem d_Mo_flake_44 : dz b_Mo_flake 44 (.iload_n 1) 1 45 := ⟨by decide +kernel, rfl⟩
theorem d_Mo_flake_45 : dz b_Mo_flake 45 (.aload_n 0) 1 46 := ⟨by decide +kernel, rfl⟩
theorem d_Mo_flake_46 : dz b_Mo_flake 46 (.getfield 119) 3 49 := ⟨by decide +kernel, rfl⟩
theorem d_Mo_flake_49 : dz b_Mo_flake 49 (.iload_n 1) 1 50 := ⟨by decide +kernel, rfl⟩
theorem d_Mo_flake_50 : dz b_Mo_flake 50 (.baload) 1 51 := ⟨by decide +kernel, rfl⟩
theorem d_Mo_flake_51 : dz b_Mo_flake 51 (.bastore) 1 52 := ⟨by decide +kernel, rfl⟩
theorem d_Mo_flake_52 : dz b_Mo_flake 52 (.iinc 1 1) 3 55 := ⟨by decide +kernel, rfl⟩
theorem d_Mo_flake_55 : dj b_Mo_flake 55 (.goto) 58 32 := ⟨(-23), by decide +kernel, rfl, by decide⟩
theorem d_Mo_flake_58 : dz b_Mo_flake 58 (.aload_n 0) 1 59 := ⟨by decide +kernel, rfl⟩
theorem d_Mo_flake_59 : dz b_Mo_flake 59 (.iconst 0) 1 60 := ⟨by decide +kernel, rfl⟩
theorem d_Mo_flake_60 : dz b_Mo_flake 60 (.putfield 116) 3 63 := ⟨by decide +kernel, rfl⟩
theorem d_Mo_flake_63 : dz b_Mo_flake 63 (.aload_n 0) 1 64 := ⟨by decide +kernel, rfl⟩
theorem d_Mo_flake_64 : dz b_Mo_flake 64 (.iconst 0) 1 65 := ⟨by decide +kernel, rfl⟩
theorem d_Mo_flake_65 : dz b_Mo_flake 65 (.putfield 75) 3 68 := ⟨by decide +kernel, rfl⟩
theorem d_Mo_flake_68 : dz b_Mo_flake 68 (.aload_n 0) 1 69 := ⟨by decide +kernel, rfl⟩
theorem d_Mo_flake_69 : dz b_Mo_flake 69 (.getfield 122) 3 72 := ⟨by decide +kernel, rfl⟩
theorem d_Mo_flake_72 : dz b_Mo_flake 72 (.aload_n 0) 1 73 := ⟨by decide +kernel, rfl⟩
theorem d_Mo_flake_73 : dz b_Mo_flake 73 (.getfield 113) 3 76 := ⟨by decide +kernel, rfl⟩
theorem d_Mo_flake_76 : dz b_Mo_flake 76 (.iconst 0) 1 77 := ⟨by decide +kernel, rfl⟩
theorem d_Mo_flake_77 : dz b_Mo_flake 77 (.iastore) 1 78 := ⟨by decide +kernel, rfl⟩
theorem d_Mo_flake_78 : dz b_Mo_flake 78 (.aload_n 0) 1 79 := ⟨by decide +kernel, rfl⟩
theorem d_Mo_flake_79 : dz b_Mo_flake 79 (.invokevirtual 106) 3 82 := ⟨by decide +kernel, rfl⟩
theorem d_Mo_flake_82 : dz b_Mo_flake 82 (.aload_n 0) 1 83 := ⟨by decide +kernel, rfl⟩
theorem d_Mo_flake_83 : dz b_Mo_flake 83 (.invokevirtual 102) 3 86 := ⟨by decide +kernel, rfl⟩
theorem d_Mo_flake_86 : dj b_Mo_flake 86 (.ifCond .eq) 89 103 := ⟨17, by decide +kernel, rfl, by decide⟩
theorem d_Mo_flake_89 : dz b_Mo_flake 89 (.aload_n 0) 1 90 := ⟨by decide +kernel, rfl⟩
theorem d_Mo_flake_90 : dz b_Mo_flake 90 (.getfield 85) 3 93 := ⟨by decide +kernel, rfl⟩
theorem d_Mo_flake_93 : dj b_Mo_flake 93 (.ifCond .eq) 96 103 := ⟨10, by decide +kernel, rfl, by decide⟩
theorem d_Mo_flake_96 : dz b_Mo_flake 96 (.aload_n 0) 1 97 := ⟨by decide +kernel, rfl⟩
theorem d_Mo_flake_97 : dz b_Mo_flake 97 (.invokevirtual 125) 3 100 := ⟨by decide +kernel, rfl⟩
theorem d_Mo_flake_100 : dj b_Mo_flake 100 (.goto) 103 82 := ⟨(-18), by decide +kernel, rfl, by decide⟩
theorem d_Mo_flake_103 : dz b_Mo_flake 103 (.aload_n 0) 1 104 := ⟨by decide +kernel, rfl⟩
theorem d_Mo_flake_104 : dz b_Mo_flake 104 (.invokevirtual 102) 3 107 := ⟨by decide +kernel, rfl⟩
theorem d_Mo_flake_107 : dj b_Mo_flake 107 (.ifCond .ne) 110 112 := ⟨5, by decide +kernel, rfl, by decide⟩
theorem d_Mo_flake_110 : dz b_Mo_flake 110 (.iconst (-1)) 1 111 := ⟨by decide +kernel, rfl⟩
theorem d_Mo_flake_111 : dz b_Mo_flake 111 (.ireturn) 1 112 := ⟨by decide +kernel, rfl⟩
theorem d_Mo_flake_112 : dz b_Mo_flake 112 (.aload_n 0) 1 113 := ⟨by decide +kernel, rfl⟩
theorem d_Mo_flake_113 : dz b_Mo_flake 113 (.getfield 128) 3 116 := ⟨by decide +kernel, rfl⟩
theorem d_Mo_flake_116 : dz b_Mo_flake 116 (.aload_n 0) 1 117 := ⟨by decide +kernel, rfl⟩
theorem d_Mo_flake_117 : dz b_Mo_flake 117 (.getfield 113) 3 120 := ⟨by decide +kernel, rfl⟩
theorem d_Mo_flake_120 : dz b_Mo_flake 120 (.aload_n 0) 1 121 := ⟨by decide +kernel, rfl⟩
theorem d_Mo_flake_121 : dz b_Mo_flake 121 (.getfield 131) 3 124 := ⟨by decide +kernel, rfl⟩
theorem d_Mo_flake_124 : dz b_Mo_flake 124 (.iastore) 1 125 := ⟨by decide +kernel, rfl⟩
theorem d_Mo_flake_125 : dz b_Mo_flake 125 (.aload_n 0) 1 126 := ⟨by decide +kernel, rfl⟩
theorem d_Mo_flake_126 : dz b_Mo_flake 126 (.getfield 134) 3 129 := ⟨by decide +kernel, rfl⟩
theorem d_Mo_flake_129 : dz b_Mo_flake 129 (.aload_n 0) 1 130 := ⟨by decide +kernel, rfl⟩
theorem d_Mo_flake_130 : dz b_Mo_flake 130 (.getfield 113) 3 133 := ⟨by decide +kernel, rfl⟩
theorem d_Mo_flake_133 : dz b_Mo_flake 133 (.iconst (-1)) 1 134 := ⟨by decide +kernel, rfl⟩
theorem d_Mo_flake_134 : dz b_Mo_flake 134 (.iastore) 1 135 := ⟨by decide +kernel, rfl⟩
theorem d_Mo_flake_135 : dz b_Mo_flake 135 (.aload_n 0) 1 136 := ⟨by decide +kernel, rfl⟩
theorem d_Mo_flake_136 : dz b_Mo_flake 136 (.dup) 1 137 := ⟨by decide +kernel, rfl⟩
theorem d_Mo_flake_137 : dz b_Mo_flake 137 (.getfield 113) 3 140 := ⟨by decide +kernel, rfl⟩
theorem d_Mo_flake_140 : dz b_Mo_flake 140 (.iconst 1) 1 141 := ⟨by decide +kernel, rfl⟩
theorem d_Mo_flake_141 : dz b_Mo_flake 141 (.iadd) 1 142 := ⟨by decide +kernel, rfl⟩
theorem d_Mo_flake_142 : dz b_Mo_flake 142 (.putfield 113) 3 145 := ⟨by decide +kernel, rfl⟩
theorem d_Mo_flake_145 : dz b_Mo_flake 145 (.aload_n 0) 1 146 := ⟨by decide +kernel, rfl⟩
theorem d_Mo_flake_146 : dz b_Mo_flake 146 (.getfield 113) 3 149 := ⟨by decide +kernel, rfl⟩
theorem d_Mo_flake_149 : dz b_Mo_flake 149 (.iconst 1) 1 150 := ⟨by decide +kernel, rfl⟩
theorem d_Mo_flake_150 : dz b_Mo_flake 150 (.isub) 1 151 := ⟨by decide +kernel, rfl⟩
theorem d_Mo_flake_151 : dz b_Mo_flake 151 (.ireturn) 1 152 := ⟨by decide +kernel, rfl⟩
theorem d_Mo_readLine_0 : dz b_Mo_readLine 0 (.aload_n 0) 1 1 := ⟨by decide +kernel, rfl⟩
theorem d_Mo_readLine_1 : dz b_Mo_readLine 1 (.ldc2_w 21) 3 4 := ⟨by decide +kernel, rfl⟩
theorem d_Mo_readLine_4 : dz b_Mo_readLine 4 (.invokevirtual 137) 3 7 := ⟨by decide +kernel, rfl⟩
theorem d_Mo_readLine_7 : dj b_Mo_readLine 7 (.ifCond .eq) 10 24 := ⟨17, by decide +kernel, rfl, by decide⟩
theorem d_Mo_readLine_10 : dz b_Mo_readLine 10 (.aload_n 0) 1 11 := ⟨by decide +kernel, rfl⟩
theorem d_Mo_readLine_11 : dz b_Mo_readLine 11 (.getfield 122) 3 14 := ⟨by decide +kernel, rfl⟩
theorem d_Mo_readLine_14 : dz b_Mo_readLine 14 (.aload_n 0) 1 15 := ⟨by decide +kernel, rfl⟩
theorem d_Mo_readLine_15 : dz b_Mo_readLine 15 (.getfield 113) 3 18 := ⟨by decide +kernel, rfl⟩
theorem d_Mo_readLine_18 : dz b_Mo_readLine 18 (.iaload) 1 19 := ⟨by decide +kernel, rfl⟩
theorem d_Mo_readLine_19 : dz b_Mo_readLine 19 (.bipush 20) 2 21 := ⟨by decide +kernel, rfl⟩
theorem d_Mo_readLine_21 : dj b_Mo_readLine 21 (.if_icmp .ne) 24 28 := ⟨7, by decide +kernel, rfl, by decide⟩
theorem d_Mo_readLine_24 : dz b_Mo_readLine 24 (.aload_n 0) 1 25 := ⟨by decide +kernel, rfl⟩
theorem d_Mo_readLine_25 : dz b_Mo_readLine 25 (.invokevirtual 110) 3 28 := ⟨by decide +kernel, rfl⟩
theorem d_Mo_readLine_28 : dz b_Mo_readLine 28 (.aload_n 0) 1 29 := ⟨by decide +kernel, rfl⟩
theorem d_Mo_readLine_29 : dz b_Mo_readLine 29 (.invokevirtual 102) 3 32 := ⟨by decide +kernel, rfl⟩
theorem d_Mo_readLine_32 : dj b_Mo_readLine 32 (.ifCond .ne) 35 36 := ⟨4, by decide +kernel, rfl, by decide⟩
theorem d_Mo_readLine_35 : dz b_Mo_readLine 35 (.return_) 1 36 := ⟨by decide +kernel, rfl⟩
theorem d_Mo_readLine_36 : dz b_Mo_readLine 36 (.aload_n 0) 1 37 := ⟨by decide +kernel, rfl⟩
theorem d_Mo_readLine_37 : dz b_Mo_readLine 37 (.invokevirtual 106) 3 40 := ⟨by decide +kernel, rfl⟩
theorem d_Mo_readLine_40 : dz b_Mo_readLine 40 (.bipush 20) 2 42 := ⟨by decide +kernel, rfl⟩
theorem d_Mo_readLine_42 : dz b_Mo_readLine 42 (.aload_n 0) 1 43 := ⟨by decide +kernel, rfl⟩
theorem d_Mo_readLine_43 : dz b_Mo_readLine 43 (.getfield 113) 3 46 := ⟨by decide +kernel, rfl⟩
theorem d_Mo_readLine_46 : dz b_Mo_readLine 46 (.imul) 1 47 := ⟨by decide +kernel, rfl⟩
theorem d_Mo_readLine_47 : dz b_Mo_readLine 47 (.aload_n 0) 1 48 := ⟨by decide +kernel, rfl⟩
theorem d_Mo_readLine_48 : dz b_Mo_readLine 48 (.getfield 122) 3 51 := ⟨by decide +kernel, rfl⟩
theorem d_Mo_readLine_51 : dz b_Mo_readLine 51 (.aload_n 0) 1 52 := ⟨by decide +kernel, rfl⟩
theorem d_Mo_readLine_52 : dz b_Mo_readLine 52 (.getfield 113) 3 55 := ⟨by decide +kernel, rfl⟩
theorem d_Mo_readLine_55 : dz b_Mo_readLine 55 (.iaload) 1 56 := ⟨by decide +kernel, rfl⟩
theorem d_Mo_readLine_56 : dz b_Mo_readLine 56 (.iadd) 1 57 := ⟨by decide +kernel, rfl⟩
theorem d_Mo_readLine_57 : dz b_Mo_readLine 57 (.istore_n 1) 1 58 := ⟨by decide +kernel, rfl⟩
theorem d_Mo_readLine_58 : dz b_Mo_readLine 58 (.aload_n 0) 1 59 := ⟨by decide +kernel, rfl⟩
theorem d_Mo_readLine_59 : dz b_Mo_readLine 59 (.getfield 85) 3 62 := ⟨by decide +kernel, rfl⟩
theorem d_Mo_readLine_62 : dz b_Mo_readLine 62 (.iconst 4) 1 63 := ⟨by decide +kernel, rfl⟩
theorem d_Mo_readLine_63 : dj b_Mo_readLine 63 (.if_icmp .ne) 66 85 := ⟨22, by decide +kernel, rfl, by decide⟩
theorem d_Mo_readLine_66 : dz b_Mo_readLine 66 (.aload_n 0) 1 67 := ⟨by decide +kernel, rfl⟩
theorem d_Mo_readLine_67 : dz b_Mo_readLine 67 (.getfield 95) 3 70 := ⟨by decide +kernel, rfl⟩
theorem d_Mo_readLine_70 : dz b_Mo_readLine 70 (.sipush 3600) 3 73 := ⟨by decide +kernel, rfl⟩
theorem d_Mo_readLine_73 : dj b_Mo_readLine 73 (.if_icmp .lt) 76 85 := ⟨12, by decide +kernel, rfl, by decide⟩
theorem d_Mo_readLine_76 : dz b_Mo_readLine 76 (.aload_n 0) 1 77 := ⟨by decide +kernel, rfl⟩
theorem d_Mo_readLine_77 : dz b_Mo_readLine 77 (.iconst 3) 1 78 := ⟨by decide +kernel, rfl⟩
theorem d_Mo_readLine_78 : dz b_Mo_readLine 78 (.aload_n 0) 1 79 := ⟨by decide +kernel, rfl⟩
theorem d_Mo_readLine_79 : dz b_Mo_readLine 79 (.getfield 78) 3 82 := ⟨by decide +kernel, rfl⟩
theorem d_Mo_readLine_82 : dz b_Mo_readLine 82 (.invokevirtual 98) 3 85 := ⟨by decide +kernel, rfl⟩
theorem d_Mo_readLine_85 : dz b_Mo_readLine 85 (.aload_n 0) 1 86 := ⟨by decide +kernel, rfl⟩
theorem d_Mo_readLine_86 : dz b_Mo_readLine 86 (.getfield 140) 3 89 := ⟨by decide +kernel, rfl⟩
theorem d_Mo_readLine_89 : dz b_Mo_readLine 89 (.iload_n 1) 1 90 := ⟨by decide +kernel, rfl⟩
theorem d_Mo_readLine_90 : dz b_Mo_readLine 90 (.aload_n 0) 1 91 := ⟨by decide +kernel, rfl⟩
theorem d_Mo_readLine_91 : dz b_Mo_readLine 91 (.getfield 95) 3 94 := ⟨by decide +kernel, rfl⟩
theorem d_Mo_readLine_94 : dz b_Mo_readLine 94 (.iastore) 1 95 := ⟨by decide +kernel, rfl⟩
theorem d_Mo_readLine_95 : dz b_Mo_readLine 95 (.aload_n 0) 1 96 := ⟨by decide +kernel, rfl⟩
theorem d_Mo_readLine_96 : dz b_Mo_readLine 96 (.aload_n 0) 1 97 := ⟨by decide +kernel, rfl⟩
theorem d_Mo_readLine_97 : dz b_Mo_readLine 97 (.getfield 85) 3 100 := ⟨by decide +kernel, rfl⟩
theorem d_Mo_readLine_100 : dz b_Mo_readLine 100 (.iconst 4) 1 101 := ⟨by decide +kernel, rfl⟩
theorem d_Mo_readLine_101 : dj b_Mo_readLine 101 (.if_icmp .ne) 104 108 := ⟨7, by decide +kernel, rfl, by decide⟩
theorem d_Mo_readLine_104 : dz b_Mo_readLine 104 (.iconst 1) 1 105 := ⟨by decide +kernel, rfl⟩
theorem d_Mo_readLine_105 : dj b_Mo_readLine 105 (.goto) 108 109 := ⟨4, by decide +kernel, rfl, by decide⟩
theorem d_Mo_readLine_108 : dz b_Mo_readLine 108 (.iconst 0) 1 109 := ⟨by decide +kernel, rfl⟩
theorem d_Mo_readLine_109 : dz b_Mo_readLine 109 (.invokevirtual 143) 3 112 := ⟨by decide +kernel, rfl⟩
theorem d_Mo_readLine_112 : dz b_Mo_readLine 112 (.aload_n 0) 1 113 := ⟨by decide +kernel, rfl⟩
theorem d_Mo_readLine_113 : dz b_Mo_readLine 113 (.getfield 147) 3 116 := ⟨by decide +kernel, rfl⟩
theorem d_Mo_readLine_116 : dz b_Mo_readLine 116 (.iload_n 1) 1 117 := ⟨by decide +kernel, rfl⟩
theorem d_Mo_readLine_117 : dz b_Mo_readLine 117 (.aload_n 0) 1 118 := ⟨by decide +kernel, rfl⟩
theorem d_Mo_readLine_118 : dz b_Mo_readLine 118 (.ldc2_w 23) 3 121 := ⟨by decide +kernel, rfl⟩
theorem d_Mo_readLine_121 : dz b_Mo_readLine 121 (.invokevirtual 137) 3 124 := ⟨by decide +kernel, rfl⟩
theorem d_Mo_readLine_124 : dj b_Mo_readLine 124 (.ifCond .eq) 127 131 := ⟨7, by decide +kernel, rfl, by decide⟩
theorem d_Mo_readLine_127 : dz b_Mo_readLine 127 (.iconst 0) 1 128 := ⟨by decide +kernel, rfl⟩
theorem d_Mo_readLine_128 : dj b_Mo_readLine 128 (.goto) 131 132 := ⟨4, by decide +kernel, rfl, by decide⟩
theorem d_Mo_readLine_131 : dz b_Mo_readLine 131 (.iconst 1) 1 132 := ⟨by decide +kernel, rfl⟩
theorem d_Mo_readLine_132 : dz b_Mo_readLine 132 (.iastore) 1 133 := ⟨by decide +kernel, rfl⟩
theorem d_Mo_readLine_133 : dz b_Mo_readLine 133 (.aload_n 0) 1 134 := ⟨by decide +kernel, rfl⟩
theorem d_Mo_readLine_134 : dz b_Mo_readLine 134 (.aload_n 0) 1 135 := ⟨by decide +kernel, rfl⟩
theorem d_Mo_readLine_135 : dz b_Mo_readLine 135 (.ldc2_w 23) 3 138 := ⟨by decide +kernel, rfl⟩
theorem d_Mo_readLine_138 : dz b_Mo_readLine 138 (.invokevirtual 137) 3 141 := ⟨by decide +kernel, rfl⟩
theorem d_Mo_readLine_141 : dj b_Mo_readLine 141 (.ifCond .ne) 144 154 := ⟨13, by decide +kernel, rfl, by decide⟩
theorem d_Mo_readLine_144 : dz b_Mo_readLine 144 (.aload_n 0) 1 145 := ⟨by decide +kernel, rfl⟩
theorem d_Mo_readLine_145 : dz b_Mo_readLine 145 (.ldc2_w 25) 3 148 := ⟨by decide +kernel, rfl⟩
theorem d_Mo_readLine_148 : dz b_Mo_readLine 148 (.invokevirtual 137) 3 151 := ⟨by decide +kernel, rfl⟩
theorem d_Mo_readLine_151 : dj b_Mo_readLine 151 (.ifCond .eq) 154 158 := ⟨7, by decide +kernel, rfl, by decide⟩
theorem d_Mo_readLine_154 : dz b_Mo_readLine 154 (.iconst 1) 1 155 := ⟨by decide +kernel, rfl⟩
theorem d_Mo_readLine_155 : dj b_Mo_readLine 155 (.goto) 158 159 := ⟨4, by decide +kernel, rfl, by decide⟩
theorem d_Mo_readLine_158 : dz b_Mo_readLine 158 (.iconst 0) 1 159 := ⟨by decide +kernel, rfl⟩
theorem d_Mo_readLine_159 : dz b_Mo_readLine 159 (.invokevirtual 143) 3 162 := ⟨by decide +kernel, rfl⟩
theorem d_Mo_readLine_162 : dz b_Mo_readLine 162 (.aload_n 0) 1 163 := ⟨by decide +kernel, rfl⟩
theorem d_Mo_readLine_163 : dz b_Mo_readLine 163 (.aload_n 0) 1 164 := ⟨by decide +kernel, rfl⟩
theorem d_Mo_readLine_164 : dz b_Mo_readLine 164 (.bipush 58) 2 166 := ⟨by decide +kernel, rfl⟩
theorem d_Mo_readLine_166 : dz b_Mo_readLine 166 (.invokevirtual 150) 3 169 := ⟨by decide +kernel, rfl⟩
theorem d_Mo_readLine_169 : dz b_Mo_readLine 169 (.invokevirtual 143) 3 172 := ⟨by decide +kernel, rfl⟩
theorem d_Mo_readLine_172 : dz b_Mo_readLine 172 (.iconst 0) 1 173 := ⟨by decide +kernel, rfl⟩
theorem d_Mo_readLine_173 : dz b_Mo_readLine 173 (.istore_n 2) 1 174 := ⟨by decide +kernel, rfl⟩
theorem d_Mo_readLine_174 : dz b_Mo_readLine 174 (.iload_n 2) 1 175 := ⟨by decide +kernel, rfl⟩
theorem d_Mo_readLine_175 : dz b_Mo_readLine 175 (.bipush 12) 2 177 := ⟨by decide +kernel, rfl⟩
theorem d_Mo_readLine_177 : dj b_Mo_readLine 177 (.if_icmp .ge) 180 198 := ⟨21, by decide +kernel, rfl, by decide⟩
theorem d_Mo_readLine_180 : dz b_Mo_readLine 180 (.aload_n 0) 1 181 := ⟨by decide +kernel, rfl⟩
theorem d_Mo_readLine_181 : dz b_Mo_readLine 181 (.getfield 153) 3 184 := ⟨by decide +kernel, rfl⟩
theorem d_Mo_readLine_184 : dz b_Mo_readLine 184 (.bipush 12) 2 186 := ⟨by decide +kernel, rfl⟩
theorem d_Mo_readLine_186 : dz b_Mo_readLine 186 (.iload_n 1) 1 187 := ⟨by decide +kernel, rfl⟩
theorem d_Mo_readLine_187 : dz b_Mo_readLine 187 (.imul) 1 188 := ⟨by decide +kernel, rfl⟩
theorem d_Mo_readLine_188 : dz b_Mo_readLine 188 (.iload_n 2) 1 189 := ⟨by decide +kernel, rfl⟩
theorem d_Mo_readLine_189 : dz b_Mo_readLine 189 (.iadd) 1 190 := ⟨by decide +kernel, rfl⟩
theorem d_Mo_readLine_190 : dz b_Mo_readLine 190 (.iconst 0) 1 191 := ⟨by decide +kernel, rfl⟩
theorem d_Mo_readLine_191 : dz b_Mo_readLine 191 (.iastore) 1 192 := ⟨by decide +kernel, rfl⟩
theorem d_Mo_readLine_192 : dz b_Mo_readLine 192 (.iinc 2 1) 3 195 := ⟨by decide +kernel, rfl⟩
theorem d_Mo_readLine_195 : dj b_Mo_readLine 195 (.goto) 198 174 := ⟨(-21), by decide +kernel, rfl, by decide⟩
theorem d_Mo_readLine_198 : dz b_Mo_readLine 198 (.aload_n 0) 1 199 := ⟨by decide +kernel, rfl⟩
theorem d_Mo_readLine_199 : dz b_Mo_readLine 199 (.getfield 156) 3 202 := ⟨by decide +kernel, rfl⟩
theorem d_Mo_readLine_202 : dz b_Mo_readLine 202 (.iload_n 1) 1 203 := ⟨by decide +kernel, rfl⟩
theorem d_Mo_readLine_203 : dz b_Mo_readLine 203 (.iconst 0) 1 204 := ⟨by decide +kernel, rfl⟩
theorem d_Mo_readLine_204 : dz b_Mo_readLine 204 (.bastore) 1 205 := ⟨by decide +kernel, rfl⟩
theorem d_Mo_readLine_205 : dz b_Mo_readLine 205 (.aload_n 0) 1 206 := ⟨by decide +kernel, rfl⟩
theorem d_Mo_readLine_206 : dz b_Mo_readLine 206 (.getfield 160) 3 209 := ⟨by decide +kernel, rfl⟩
theorem d_Mo_readLine_209 : dz b_Mo_readLine 209 (.iload_n 1) 1 210 := ⟨by decide +kernel, rfl⟩
theorem d_Mo_readLine_210 : dz b_Mo_readLine 210 (.iconst (-1)) 1 211 := ⟨by decide +kernel, rfl⟩
theorem d_Mo_readLine_211 : dz b_Mo_readLine 211 (.iastore) 1 212 := ⟨by decide +kernel, rfl⟩
theorem d_Mo_readLine_212 : dz b_Mo_readLine 212 (.aload_n 0) 1 213 := ⟨by decide +kernel, rfl⟩
theorem d_Mo_readLine_213 : dz b_Mo_readLine 213 (.invokevirtual 102) 3 216 := ⟨by decide +kernel, rfl⟩
theorem d_Mo_readLine_216 : dj b_Mo_readLine 216 (.ifCond .eq) 219 244 := ⟨28, by decide +kernel, rfl, by decide⟩
theorem d_Mo_readLine_219 : dz b_Mo_readLine 219 (.aload_n 0) 1 220 := ⟨by decide +kernel, rfl⟩
theorem d_Mo_readLine_220 : dz b_Mo_readLine 220 (.getfield 85) 3 223 := ⟨by decide +kernel, rfl⟩
theorem d_Mo_readLine_223 : dz b_Mo_readLine 223 (.iconst 2) 1 224 := ⟨by decide +kernel, rfl⟩
theorem d_Mo_readLine_224 : dj b_Mo_readLine 224 (.if_icmp .eq) 227 236 := ⟨12, by decide +kernel, rfl, by decide⟩
theorem d_Mo_readLine_227 : dz b_Mo_readLine 227 (.aload_n 0) 1 228 := ⟨by decide +kernel, rfl⟩
theorem d_Mo_readLine_228 : dz b_Mo_readLine 228 (.bipush 63) 2 230 := ⟨by decide +kernel, rfl⟩
theorem d_Mo_readLine_230 : dz b_Mo_readLine 230 (.invokevirtual 150) 3 233 := ⟨by decide +kernel, rfl⟩
theorem d_Mo_readLine_233 : dj b_Mo_readLine 233 (.ifCond .eq) 236 244 := ⟨11, by decide +kernel, rfl, by decide⟩
theorem d_Mo_readLine_236 : dz b_Mo_readLine 236 (.aload_n 0) 1 237 := ⟨by decide +kernel, rfl⟩
theorem d_Mo_readLine_237 : dz b_Mo_readLine 237 (.iload_n 1) 1 238 := ⟨by decide +kernel, rfl⟩
theorem d_Mo_readLine_238 : dz b_Mo_readLine 238 (.invokevirtual 163) 3 241 := ⟨by decide +kernel, rfl⟩
theorem d_Mo_readLine_241 : dj b_Mo_readLine 241 (.goto) 244 212 := ⟨(-29), by decide +kernel, rfl, by decide⟩
theorem d_Mo_readLine_244 : dz b_Mo_readLine 244 (.aload_n 0) 1 245 := ⟨by decide +kernel, rfl⟩
theorem d_Mo_readLine_245 : dz b_Mo_readLine 245 (.invokevirtual 102) 3 248 := ⟨by decide +kernel, rfl⟩
theorem d_Mo_readLine_248 : dj b_Mo_readLine 248 (.ifCond .eq) 251 266 := ⟨18, by decide +kernel, rfl, by decide⟩
theorem d_Mo_readLine_251 : dz b_Mo_readLine 251 (.aload_n 0) 1 252 := ⟨by decide +kernel, rfl⟩
theorem d_Mo_readLine_252 : dz b_Mo_readLine 252 (.ldc2_w 27) 3 255 := ⟨by decide +kernel, rfl⟩
theorem d_Mo_readLine_255 : dz b_Mo_readLine 255 (.invokevirtual 137) 3 258 := ⟨by decide +kernel, rfl⟩
theorem d_Mo_readLine_258 : dj b_Mo_readLine 258 (.ifCond .eq) 261 266 := ⟨8, by decide +kernel, rfl, by decide⟩
theorem d_Mo_readLine_261 : dz b_Mo_readLine 261 (.aload_n 0) 1 262 := ⟨by decide +kernel, rfl⟩
theorem d_Mo_readLine_262 : dz b_Mo_readLine 262 (.iload_n 1) 1 263 := ⟨by decide +kernel, rfl⟩
theorem d_Mo_readLine_263 : dz b_Mo_readLine 263 (.invokevirtual 167) 3 266 := ⟨by decide +kernel, rfl⟩
theorem d_Mo_readLine_266 : dz b_Mo_readLine 266 (.aload_n 0) 1 267 := ⟨by decide +kernel, rfl⟩
theorem d_Mo_readLine_267 : dz b_Mo_readLine 267 (.aload_n 0) 1 268 := ⟨by decide +kernel, rfl⟩
theorem d_Mo_readLine_268 : dz b_Mo_readLine 268 (.bipush 59) 2 270 := ⟨by decide +kernel, rfl⟩
theorem d_Mo_readLine_270 : dz b_Mo_readLine 270 (.invokevirtual 150) 3 273 := ⟨by decide +kernel, rfl⟩
theorem d_Mo_readLine_273 : dz b_Mo_readLine 273 (.invokevirtual 143) 3 276 := ⟨by decide +kernel, rfl⟩
theorem d_Mo_readLine_276 : dz b_Mo_readLine 276 (.aload_n 0) 1 277 := ⟨by decide +kernel, rfl⟩
theorem d_Mo_readLine_277 : dz b_Mo_readLine 277 (.getfield 122) 3 280 := ⟨by decide +kernel, rfl⟩
theorem d_Mo_readLine_280 : dz b_Mo_readLine 280 (.aload_n 0) 1 281 := ⟨by decide +kernel, rfl⟩
theorem d_Mo_readLine_281 : dz b_Mo_readLine 281 (.getfield 113) 3 284 := ⟨by decide +kernel, rfl⟩
theorem d_Mo_readLine_284 : dz b_Mo_readLine 284 (.dup2) 1 285 := ⟨by decide +kernel, rfl⟩
theorem d_Mo_readLine_285 : dz b_Mo_readLine 285 (.iaload) 1 286 := ⟨by decide +kernel, rfl⟩
theorem d_Mo_readLine_286 : dz b_Mo_readLine 286 (.iconst 1) 1 287 := ⟨by decide +kernel, rfl⟩
theorem d_Mo_readLine_287 : dz b_Mo_readLine 287 (.iadd) 1 288 := ⟨by decide +kernel, rfl⟩
theorem d_Mo_readLine_288 : dz b_Mo_readLine 288 (.iastore) 1 289 := ⟨by decide +kernel, rfl⟩
theorem d_Mo_readLine_289 : dz b_Mo_readLine 289 (.return_) 1 290 := ⟨by decide +kernel, rfl⟩
theorem d_Mo_readEntry_0 : dz b_Mo_readEntry 0 (.aload_n 0) 1 1 := ⟨by decide +kernel, rfl⟩
theorem d_Mo_readEntry_1 : dz b_Mo_readEntry 1 (.bipush 63) 2 3 := ⟨by decide +kernel, rfl⟩
theorem d_Mo_readEntry_3 : dz b_Mo_readEntry 3 (.invokevirtual 150) 3 6 := ⟨by decide +kernel, rfl⟩
theorem d_Mo_readEntry_6 : dj b_Mo_readEntry 6 (.ifCond .eq) 9 21 := ⟨15, by decide +kernel, rfl, by decide⟩
theorem d_Mo_readEntry_9 : dz b_Mo_readEntry 9 (.aload_n 0) 1 10 := ⟨by decide +kernel, rfl⟩
theorem d_Mo_readEntry_10 : dz b_Mo_readEntry 10 (.getfield 156) 3 13 := ⟨by decide +kernel, rfl⟩
theorem d_Mo_readEntry_13 : dz b_Mo_readEntry 13 (.iload_n 1) 1 14 := ⟨by decide +kernel, rfl⟩
theorem d_Mo_readEntry_14 : dz b_Mo_readEntry 14 (.iconst 1) 1 15 := ⟨by decide +kernel, rfl⟩
theorem d_Mo_readEntry_15 : dz b_Mo_readEntry 15 (.bastore) 1 16 := ⟨by decide +kernel, rfl⟩
theorem d_Mo_readEntry_16 : dz b_Mo_readEntry 16 (.aload_n 0) 1 17 := ⟨by decide +kernel, rfl⟩
theorem d_Mo_readEntry_17 : dz b_Mo_readEntry 17 (.invokevirtual 106) 3 20 := ⟨by decide +kernel, rfl⟩
theorem d_Mo_readEntry_20 : dz b_Mo_readEntry 20 (.return_) 1 21 := ⟨by decide +kernel, rfl⟩
theorem d_Mo_readEntry_21 : dz b_Mo_readEntry 21 (.aload_n 0) 1 22 := ⟨by decide +kernel, rfl⟩
theorem d_Mo_readEntry_22 : dz b_Mo_readEntry 22 (.aload_n 0) 1 23 := ⟨by decide +kernel, rfl⟩
theorem d_Mo_readEntry_23 : dz b_Mo_readEntry 23 (.getfield 88) 3 26 := ⟨by decide +kernel, rfl⟩
theorem d_Mo_readEntry_26 : dz b_Mo_readEntry 26 (.invokevirtual 49) 3 29 := ⟨by decide +kernel, rfl⟩
theorem d_Mo_readEntry_29 : dz b_Mo_readEntry 29 (.istore_n 2) 1 30 := ⟨by decide +kernel, rfl⟩
theorem d_Mo_readEntry_30 : dz b_Mo_readEntry 30 (.iload_n 2) 1 31 := ⟨by decide +kernel, rfl⟩
theorem d_Mo_readEntry_31 : dj b_Mo_readEntry 31 (.ifCond .lt) 34 49 := ⟨18, by decide +kernel, rfl, by decide⟩
theorem d_Mo_readEntry_34 : dz b_Mo_readEntry 34 (.aload_n 0) 1 35 := ⟨by decide +kernel, rfl⟩
theorem d_Mo_readEntry_35 : dz b_Mo_readEntry 35 (.getfield 52) 3 38 := ⟨by decide +kernel, rfl⟩
theorem d_Mo_readEntry_38 : dz b_Mo_readEntry 38 (.iload_n 2) 1 39 := ⟨by decide +kernel, rfl⟩
theorem d_Mo_readEntry_39 : dz b_Mo_readEntry 39 (.iaload) 1 40 := ⟨by decide +kernel, rfl⟩
theorem d_Mo_readEntry_40 : dz b_Mo_readEntry 40 (.aload_n 0) 1 41 := ⟨by decide +kernel, rfl⟩
theorem d_Mo_readEntry_41 : dz b_Mo_readEntry 41 (.getfield 147) 3 44 := ⟨by decide +kernel, rfl⟩
theorem d_Mo_readEntry_44 : dz b_Mo_readEntry 44 (.iload_n 1) 1 45 := ⟨by decide +kernel, rfl⟩
theorem d_Mo_readEntry_45 : dz b_Mo_readEntry 45 (.iaload) 1 46 := ⟨by decide +kernel, rfl⟩
theorem d_Mo_readEntry_46 : dj b_Mo_readEntry 46 (.if_icmp .eq) 49 61 := ⟨15, by decide +kernel, rfl, by decide⟩
theorem d_Mo_readEntry_49 : dz b_Mo_readEntry 49 (.aload_n 0) 1 50 := ⟨by decide +kernel, rfl⟩
theorem d_Mo_readEntry_50 : dz b_Mo_readEntry 50 (.iconst 4) 1 51 := ⟨by decide +kernel, rfl⟩
theorem d_Mo_readEntry_51 : dz b_Mo_readEntry 51 (.aload_n 0) 1 52 := ⟨by decide +kernel, rfl⟩
theorem d_Mo_readEntry_52 : dz b_Mo_readEntry 52 (.getfield 78) 3 55 := ⟨by decide +kernel, rfl⟩
theorem d_Mo_readEntry_55 : dz b_Mo_readEntry 55 (.invokevirtual 98) 3 58 := ⟨by decide +kernel, rfl⟩
theorem d_Mo_readEntry_58 : dj b_Mo_readEntry 58 (.goto) 61 84 := ⟨26, by decide +kernel, rfl, by decide⟩
theorem d_Mo_readEntry_61 : dz b_Mo_readEntry 61 (.aload_n 0) 1 62 := ⟨by decide +kernel, rfl⟩
theorem d_Mo_readEntry_62 : dz b_Mo_readEntry 62 (.getfield 153) 3 65 := ⟨by decide +kernel, rfl⟩
theorem d_Mo_readEntry_65 : dz b_Mo_readEntry 65 (.bipush 12) 2 67 := ⟨by decide +kernel, rfl⟩
theorem d_Mo_readEntry_67 : dz b_Mo_readEntry 67 (.iload_n 1) 1 68 := ⟨by decide +kernel, rfl⟩
theorem d_Mo_readEntry_68 : dz b_Mo_readEntry 68 (.imul) 1 69 := ⟨by decide +kernel, rfl⟩
theorem d_Mo_readEntry_69 : dz b_Mo_readEntry 69 (.iload_n 2) 1 70 := ⟨by decide +kernel, rfl⟩
theorem d_Mo_readEntry_70 : dz b_Mo_readEntry 70 (.iadd) 1 71 := ⟨by decide +kernel, rfl⟩
theorem d_Mo_readEntry_71 : dz b_Mo_readEntry 71 (.iaload) 1 72 := ⟨by decide +kernel, rfl⟩
theorem d_Mo_readEntry_72 : dj b_Mo_readEntry 72 (.ifCond .eq) 75 84 := ⟨12, by decide +kernel, rfl, by decide⟩
theorem d_Mo_readEntry_75 : dz b_Mo_readEntry 75 (.aload_n 0) 1 76 := ⟨by decide +kernel, rfl⟩
theorem d_Mo_readEntry_76 : dz b_Mo_readEntry 76 (.iconst 5) 1 77 := ⟨by decide +kernel, rfl⟩
theorem d_Mo_readEntry_77 : dz b_Mo_readEntry 77 (.aload_n 0) 1 78 := ⟨by decide +kernel, rfl⟩
theorem d_Mo_readEntry_78 : dz b_Mo_readEntry 78 (.getfield 78) 3 81 := ⟨by decide +kernel, rfl⟩
theorem d_Mo_readEntry_81 : dz b_Mo_readEntry 81 (.invokevirtual 98) 3 84 := ⟨by decide +kernel, rfl⟩
end
section
theorem d_Mo_readEntry_84 : dz b_Mo_readEntry 84 (.aload_n 0) 1 85 := ⟨by decide +kernel, rfl⟩
theorem d_Mo_readEntry_85 : dz b_Mo_readEntry 85 (.invokevirtual 102) 3 88 := ⟨by decide +kernel, rfl⟩
theorem d_Mo_readEntry_88 : dj b_Mo_readEntry 88 (.ifCond .ne) 91 92 := ⟨4, by decide +kernel, rfl, by decide⟩
theorem d_Mo_readEntry_91 : dz b_Mo_readEntry 91 (.return_) 1 92 := ⟨by decide +kernel, rfl⟩
theorem d_Mo_readEntry_92 : dz b_Mo_readEntry 92 (.aload_n 0) 1 93 := ⟨by decide +kernel, rfl⟩
theorem d_Mo_readEntry_93 : dz b_Mo_readEntry 93 (.invokevirtual 106) 3 96 := ⟨by decide +kernel, rfl⟩
theorem d_Mo_readEntry_96 : dz b_Mo_readEntry 96 (.aload_n 0) 1 97 := ⟨by decide +kernel, rfl⟩
theorem d_Mo_readEntry_97 : dz b_Mo_readEntry 97 (.getfield 85) 3 100 := ⟨by decide +kernel, rfl⟩
theorem d_Mo_readEntry_100 : dz b_Mo_readEntry 100 (.iconst 3) 1 101 := ⟨by decide +kernel, rfl⟩
theorem d_Mo_readEntry_101 : dj b_Mo_readEntry 101 (.if_icmp .ne) 104 114 := ⟨13, by decide +kernel, rfl, by decide⟩
theorem d_Mo_readEntry_104 : dz b_Mo_readEntry 104 (.aload_n 0) 1 105 := ⟨by decide +kernel, rfl⟩
theorem d_Mo_readEntry_105 : dz b_Mo_readEntry 105 (.getfield 88) 3 108 := ⟨by decide +kernel, rfl⟩
theorem d_Mo_readEntry_108 : dz b_Mo_readEntry 108 (.invokestatic 17) 3 111 := ⟨by decide +kernel, rfl⟩
theorem d_Mo_readEntry_111 : dj b_Mo_readEntry 111 (.goto) 114 115 := ⟨4, by decide +kernel, rfl, by decide⟩
theorem d_Mo_readEntry_114 : dz b_Mo_readEntry 114 (.iconst 0) 1 115 := ⟨by decide +kernel, rfl⟩
theorem d_Mo_readEntry_115 : dz b_Mo_readEntry 115 (.istore_n 3) 1 116 := ⟨by decide +kernel, rfl⟩
theorem d_Mo_readEntry_116 : dz b_Mo_readEntry 116 (.aload_n 0) 1 117 := ⟨by decide +kernel, rfl⟩
theorem d_Mo_readEntry_117 : dz b_Mo_readEntry 117 (.getfield 153) 3 120 := ⟨by decide +kernel, rfl⟩
theorem d_Mo_readEntry_120 : dz b_Mo_readEntry 120 (.bipush 12) 2 122 := ⟨by decide +kernel, rfl⟩
theorem d_Mo_readEntry_122 : dz b_Mo_readEntry 122 (.iload_n 1) 1 123 := ⟨by decide +kernel, rfl⟩
theorem d_Mo_readEntry_123 : dz b_Mo_readEntry 123 (.imul) 1 124 := ⟨by decide +kernel, rfl⟩
theorem d_Mo_readEntry_124 : dz b_Mo_readEntry 124 (.iload_n 2) 1 125 := ⟨by decide +kernel, rfl⟩
theorem d_Mo_readEntry_125 : dz b_Mo_readEntry 125 (.iadd) 1 126 := ⟨by decide +kernel, rfl⟩
theorem d_Mo_readEntry_126 : dz b_Mo_readEntry 126 (.aload_n 0) 1 127 := ⟨by decide +kernel, rfl⟩
theorem d_Mo_readEntry_127 : dz b_Mo_readEntry 127 (.bipush 63) 2 129 := ⟨by decide +kernel, rfl⟩
theorem d_Mo_readEntry_129 : dz b_Mo_readEntry 129 (.invokevirtual 150) 3 132 := ⟨by decide +kernel, rfl⟩
theorem d_Mo_readEntry_132 : dj b_Mo_readEntry 132 (.ifCond .eq) 135 140 := ⟨8, by decide +kernel, rfl, by decide⟩
theorem d_Mo_readEntry_135 : dz b_Mo_readEntry 135 (.bipush 8) 2 137 := ⟨by decide +kernel, rfl⟩
theorem d_Mo_readEntry_137 : dj b_Mo_readEntry 137 (.goto) 140 141 := ⟨4, by decide +kernel, rfl, by decide⟩
theorem d_Mo_readEntry_140 : dz b_Mo_readEntry 140 (.iload_n 3) 1 141 := ⟨by decide +kernel, rfl⟩
theorem d_Mo_readEntry_141 : dz b_Mo_readEntry 141 (.iastore) 1 142 := ⟨by decide +kernel, rfl⟩
theorem d_Mo_readEntry_142 : dz b_Mo_readEntry 142 (.aload_n 0) 1 143 := ⟨by decide +kernel, rfl⟩
theorem d_Mo_readEntry_143 : dz b_Mo_readEntry 143 (.aload_n 0) 1 144 := ⟨by decide +kernel, rfl⟩
theorem d_Mo_readEntry_144 : dz b_Mo_readEntry 144 (.bipush 63) 2 146 := ⟨by decide +kernel, rfl⟩
theorem d_Mo_readEntry_146 : dz b_Mo_readEntry 146 (.invokevirtual 150) 3 149 := ⟨by decide +kernel, rfl⟩
theorem d_Mo_readEntry_149 : dj b_Mo_readEntry 149 (.ifCond .ne) 152 156 := ⟨7, by decide +kernel, rfl, by decide⟩
theorem d_Mo_readEntry_152 : dz b_Mo_readEntry 152 (.iload_n 3) 1 153 := ⟨by decide +kernel, rfl⟩
theorem d_Mo_readEntry_153 : dj b_Mo_readEntry 153 (.ifCond .le) 156 160 := ⟨7, by decide +kernel, rfl, by decide⟩
theorem d_Mo_readEntry_156 : dz b_Mo_readEntry 156 (.iconst 1) 1 157 := ⟨by decide +kernel, rfl⟩
theorem d_Mo_readEntry_157 : dj b_Mo_readEntry 157 (.goto) 160 161 := ⟨4, by decide +kernel, rfl, by decide⟩
theorem d_Mo_readEntry_160 : dz b_Mo_readEntry 160 (.iconst 0) 1 161 := ⟨by decide +kernel, rfl⟩
theorem d_Mo_readEntry_161 : dz b_Mo_readEntry 161 (.invokevirtual 143) 3 164 := ⟨by decide +kernel, rfl⟩
theorem d_Mo_readEntry_164 : dz b_Mo_readEntry 164 (.return_) 1 165 := ⟨by decide +kernel, rfl⟩
theorem d_Mo_readWicks_0 : dz b_Mo_readWicks 0 (.aload_n 0) 1 1 := ⟨by decide +kernel, rfl⟩
theorem d_Mo_readWicks_1 : dz b_Mo_readWicks 1 (.invokevirtual 106) 3 4 := ⟨by decide +kernel, rfl⟩
theorem d_Mo_readWicks_4 : dz b_Mo_readWicks 4 (.aload_n 0) 1 5 := ⟨by decide +kernel, rfl⟩
theorem d_Mo_readWicks_5 : dz b_Mo_readWicks 5 (.bipush 63) 2 7 := ⟨by decide +kernel, rfl⟩
theorem d_Mo_readWicks_7 : dz b_Mo_readWicks 7 (.invokevirtual 150) 3 10 := ⟨by decide +kernel, rfl⟩
theorem d_Mo_readWicks_10 : dj b_Mo_readWicks 10 (.ifCond .eq) 13 18 := ⟨8, by decide +kernel, rfl, by decide⟩
theorem d_Mo_readWicks_13 : dz b_Mo_readWicks 13 (.aload_n 0) 1 14 := ⟨by decide +kernel, rfl⟩
theorem d_Mo_readWicks_14 : dz b_Mo_readWicks 14 (.invokevirtual 106) 3 17 := ⟨by decide +kernel, rfl⟩
theorem d_Mo_readWicks_17 : dz b_Mo_readWicks 17 (.return_) 1 18 := ⟨by decide +kernel, rfl⟩
theorem d_Mo_readWicks_18 : dz b_Mo_readWicks 18 (.aload_n 0) 1 19 := ⟨by decide +kernel, rfl⟩
theorem d_Mo_readWicks_19 : dz b_Mo_readWicks 19 (.getfield 85) 3 22 := ⟨by decide +kernel, rfl⟩
theorem d_Mo_readWicks_22 : dz b_Mo_readWicks 22 (.iconst 4) 1 23 := ⟨by decide +kernel, rfl⟩
theorem d_Mo_readWicks_23 : dj b_Mo_readWicks 23 (.if_icmp .ne) 26 46 := ⟨23, by decide +kernel, rfl, by decide⟩
theorem d_Mo_readWicks_26 : dz b_Mo_readWicks 26 (.aload_n 0) 1 27 := ⟨by decide +kernel, rfl⟩
theorem d_Mo_readWicks_27 : dz b_Mo_readWicks 27 (.getfield 95) 3 30 := ⟨by decide +kernel, rfl⟩
theorem d_Mo_readWicks_30 : dz b_Mo_readWicks 30 (.iconst 2) 1 31 := ⟨by decide +kernel, rfl⟩
theorem d_Mo_readWicks_31 : dz b_Mo_readWicks 31 (.irem) 1 32 := ⟨by decide +kernel, rfl⟩
theorem d_Mo_readWicks_32 : dz b_Mo_readWicks 32 (.iconst 1) 1 33 := ⟨by decide +kernel, rfl⟩
theorem d_Mo_readWicks_33 : dj b_Mo_readWicks 33 (.if_icmp .ne) 36 46 := ⟨13, by decide +kernel, rfl, by decide⟩
theorem d_Mo_readWicks_36 : dz b_Mo_readWicks 36 (.aload_n 0) 1 37 := ⟨by decide +kernel, rfl⟩
theorem d_Mo_readWicks_37 : dz b_Mo_readWicks 37 (.bipush 6) 2 39 := ⟨by decide +kernel, rfl⟩
theorem d_Mo_readWicks_39 : dz b_Mo_readWicks 39 (.aload_n 0) 1 40 := ⟨by decide +kernel, rfl⟩
theorem d_Mo_readWicks_40 : dz b_Mo_readWicks 40 (.getfield 78) 3 43 := ⟨by decide +kernel, rfl⟩
theorem d_Mo_readWicks_43 : dz b_Mo_readWicks 43 (.invokevirtual 98) 3 46 := ⟨by decide +kernel, rfl⟩
theorem d_Mo_readWicks_46 : dz b_Mo_readWicks 46 (.aload_n 0) 1 47 := ⟨by decide +kernel, rfl⟩
theorem d_Mo_readWicks_47 : dz b_Mo_readWicks 47 (.getfield 160) 3 50 := ⟨by decide +kernel, rfl⟩
theorem d_Mo_readWicks_50 : dz b_Mo_readWicks 50 (.iload_n 1) 1 51 := ⟨by decide +kernel, rfl⟩
theorem d_Mo_readWicks_51 : dz b_Mo_readWicks 51 (.aload_n 0) 1 52 := ⟨by decide +kernel, rfl⟩
theorem d_Mo_readWicks_52 : dz b_Mo_readWicks 52 (.getfield 95) 3 55 := ⟨by decide +kernel, rfl⟩
theorem d_Mo_readWicks_55 : dz b_Mo_readWicks 55 (.iastore) 1 56 := ⟨by decide +kernel, rfl⟩
theorem d_Mo_readWicks_56 : dz b_Mo_readWicks 56 (.aload_n 0) 1 57 := ⟨by decide +kernel, rfl⟩
theorem d_Mo_readWicks_57 : dz b_Mo_readWicks 57 (.aload_n 0) 1 58 := ⟨by decide +kernel, rfl⟩
theorem d_Mo_readWicks_58 : dz b_Mo_readWicks 58 (.getfield 85) 3 61 := ⟨by decide +kernel, rfl⟩
theorem d_Mo_readWicks_61 : dz b_Mo_readWicks 61 (.iconst 4) 1 62 := ⟨by decide +kernel, rfl⟩
theorem d_Mo_readWicks_62 : dj b_Mo_readWicks 62 (.if_icmp .ne) 65 69 := ⟨7, by decide +kernel, rfl, by decide⟩
theorem d_Mo_readWicks_65 : dz b_Mo_readWicks 65 (.iconst 1) 1 66 := ⟨by decide +kernel, rfl⟩
theorem d_Mo_readWicks_66 : dj b_Mo_readWicks 66 (.goto) 69 70 := ⟨4, by decide +kernel, rfl, by decide⟩
theorem d_Mo_readWicks_69 : dz b_Mo_readWicks 69 (.iconst 0) 1 70 := ⟨by decide +kernel, rfl⟩
theorem d_Mo_readWicks_70 : dz b_Mo_readWicks 70 (.invokevirtual 143) 3 73 := ⟨by decide +kernel, rfl⟩
theorem d_Mo_readWicks_73 : dz b_Mo_readWicks 73 (.return_) 1 74 := ⟨by decide +kernel, rfl⟩
theorem d_Mo_fault_0 : dz b_Mo_fault 0 (.iload_n 1) 1 1 := ⟨by decide +kernel, rfl⟩
theorem d_Mo_fault_1 : dj b_Mo_fault 1 (.ifCond .ne) 4 11 := ⟨10, by decide +kernel, rfl, by decide⟩
theorem d_Mo_fault_4 : dz b_Mo_fault 4 (.aload_n 0) 1 5 := ⟨by decide +kernel, rfl⟩
theorem d_Mo_fault_5 : dz b_Mo_fault 5 (.getfield 69) 3 8 := ⟨by decide +kernel, rfl⟩
theorem d_Mo_fault_8 : dj b_Mo_fault 8 (.goto) 11 24 := ⟨16, by decide +kernel, rfl, by decide⟩
theorem d_Mo_fault_11 : dz b_Mo_fault 11 (.iload_n 1) 1 12 := ⟨by decide +kernel, rfl⟩
theorem d_Mo_fault_12 : dz b_Mo_fault 12 (.iconst 1) 1 13 := ⟨by decide +kernel, rfl⟩
theorem d_Mo_fault_13 : dj b_Mo_fault 13 (.if_icmp .ne) 16 23 := ⟨10, by decide +kernel, rfl, by decide⟩
theorem d_Mo_fault_16 : dz b_Mo_fault 16 (.aload_n 0) 1 17 := ⟨by decide +kernel, rfl⟩
theorem d_Mo_fault_17 : dz b_Mo_fault 17 (.getfield 72) 3 20 := ⟨by decide +kernel, rfl⟩
theorem d_Mo_fault_20 : dj b_Mo_fault 20 (.goto) 23 24 := ⟨4, by decide +kernel, rfl, by decide⟩
theorem d_Mo_fault_23 : dz b_Mo_fault 23 (.iconst (-1)) 1 24 := ⟨by decide +kernel, rfl⟩
theorem d_Mo_fault_24 : dz b_Mo_fault 24 (.ireturn) 1 25 := ⟨by decide +kernel, rfl⟩
theorem d_Mo_giveUp_0 : dz b_Mo_giveUp 0 (.iload_n 1) 1 1 := ⟨by decide +kernel, rfl⟩
theorem d_Mo_giveUp_1 : dj b_Mo_giveUp 1 (.ifCond .lt) 4 21 := ⟨20, by decide +kernel, rfl, by decide⟩
theorem d_Mo_giveUp_4 : dz b_Mo_giveUp 4 (.iload_n 1) 1 5 := ⟨by decide +kernel, rfl⟩
theorem d_Mo_giveUp_5 : dz b_Mo_giveUp 5 (.aload_n 0) 1 6 := ⟨by decide +kernel, rfl⟩
theorem d_Mo_giveUp_6 : dz b_Mo_giveUp 6 (.getfield 113) 3 9 := ⟨by decide +kernel, rfl⟩
theorem d_Mo_giveUp_9 : dj b_Mo_giveUp 9 (.if_icmp .ge) 12 21 := ⟨12, by decide +kernel, rfl, by decide⟩
theorem d_Mo_giveUp_12 : dz b_Mo_giveUp 12 (.aload_n 0) 1 13 := ⟨by decide +kernel, rfl⟩
theorem d_Mo_giveUp_13 : dz b_Mo_giveUp 13 (.getfield 134) 3 16 := ⟨by decide +kernel, rfl⟩
theorem d_Mo_giveUp_16 : dz b_Mo_giveUp 16 (.iload_n 1) 1 17 := ⟨by decide +kernel, rfl⟩
theorem d_Mo_giveUp_17 : dz b_Mo_giveUp 17 (.iaload) 1 18 := ⟨by decide +kernel, rfl⟩
theorem d_Mo_giveUp_18 : dj b_Mo_giveUp 18 (.ifCond .lt) 21 23 := ⟨5, by decide +kernel, rfl, by decide⟩
theorem d_Mo_giveUp_21 : dz b_Mo_giveUp 21 (.iconst 0) 1 22 := ⟨by decide +kernel, rfl⟩
theorem d_Mo_giveUp_22 : dz b_Mo_giveUp 22 (.ireturn) 1 23 := ⟨by decide +kernel, rfl⟩
theorem d_Mo_giveUp_23 : dz b_Mo_giveUp 23 (.aload_n 0) 1 24 := ⟨by decide +kernel, rfl⟩
theorem d_Mo_giveUp_24 : dz b_Mo_giveUp 24 (.getfield 134) 3 27 := ⟨by decide +kernel, rfl⟩
theorem d_Mo_giveUp_27 : dz b_Mo_giveUp 27 (.iload_n 1) 1 28 := ⟨by decide +kernel, rfl⟩
theorem d_Mo_giveUp_28 : dz b_Mo_giveUp 28 (.aload_n 0) 1 29 := ⟨by decide +kernel, rfl⟩
theorem d_Mo_giveUp_29 : dz b_Mo_giveUp 29 (.getfield 131) 3 32 := ⟨by decide +kernel, rfl⟩
theorem d_Mo_giveUp_32 : dz b_Mo_giveUp 32 (.iastore) 1 33 := ⟨by decide +kernel, rfl⟩
theorem d_Mo_giveUp_33 : dz b_Mo_giveUp 33 (.iconst 1) 1 34 := ⟨by decide +kernel, rfl⟩
theorem d_Mo_giveUp_34 : dz b_Mo_giveUp 34 (.ireturn) 1 35 := ⟨by decide +kernel, rfl⟩
theorem d_Mo_later_0 : dz b_Mo_later 0 (.iload_n 1) 1 1 := ⟨by decide +kernel, rfl⟩
theorem d_Mo_later_1 : dj b_Mo_later 1 (.ifCond .lt) 4 22 := ⟨21, by decide +kernel, rfl, by decide⟩
theorem d_Mo_later_4 : dz b_Mo_later 4 (.iload_n 1) 1 5 := ⟨by decide +kernel, rfl⟩
theorem d_Mo_later_5 : dz b_Mo_later 5 (.sipush 1000) 3 8 := ⟨by decide +kernel, rfl⟩
theorem d_Mo_later_8 : dj b_Mo_later 8 (.if_icmp .gt) 11 22 := ⟨14, by decide +kernel, rfl, by decide⟩
theorem d_Mo_later_11 : dz b_Mo_later 11 (.aload_n 0) 1 12 := ⟨by decide +kernel, rfl⟩
theorem d_Mo_later_12 : dz b_Mo_later 12 (.getfield 131) 3 15 := ⟨by decide +kernel, rfl⟩
theorem d_Mo_later_15 : dz b_Mo_later 15 (.iload_n 1) 1 16 := ⟨by decide +kernel, rfl⟩
theorem d_Mo_later_16 : dz b_Mo_later 16 (.iadd) 1 17 := ⟨by decide +kernel, rfl⟩
theorem d_Mo_later_17 : dz b_Mo_later 17 (.ldc 170) 2 19 := ⟨by decide +kernel, rfl⟩
theorem d_Mo_later_19 : dj b_Mo_later 19 (.if_icmp .le) 22 24 := ⟨5, by decide +kernel, rfl, by decide⟩
theorem d_Mo_later_22 : dz b_Mo_later 22 (.iconst (-1)) 1 23 := ⟨by decide +kernel, rfl⟩
theorem d_Mo_later_23 : dz b_Mo_later 23 (.ireturn) 1 24 := ⟨by decide +kernel, rfl⟩
theorem d_Mo_later_24 : dz b_Mo_later 24 (.aload_n 0) 1 25 := ⟨by decide +kernel, rfl⟩
theorem d_Mo_later_25 : dz b_Mo_later 25 (.dup) 1 26 := ⟨by decide +kernel, rfl⟩
theorem d_Mo_later_26 : dz b_Mo_later 26 (.getfield 131) 3 29 := ⟨by decide +kernel, rfl⟩
theorem d_Mo_later_29 : dz b_Mo_later 29 (.iload_n 1) 1 30 := ⟨by decide +kernel, rfl⟩
theorem d_Mo_later_30 : dz b_Mo_later 30 (.iadd) 1 31 := ⟨by decide +kernel, rfl⟩
theorem d_Mo_later_31 : dz b_Mo_later 31 (.putfield 131) 3 34 := ⟨by decide +kernel, rfl⟩
theorem d_Mo_later_34 : dz b_Mo_later 34 (.aload_n 0) 1 35 := ⟨by decide +kernel, rfl⟩
theorem d_Mo_later_35 : dz b_Mo_later 35 (.getfield 131) 3 38 := ⟨by decide +kernel, rfl⟩
theorem d_Mo_later_38 : dz b_Mo_later 38 (.ireturn) 1 39 := ⟨by decide +kernel, rfl⟩
theorem d_Mo_counts_0 : dz b_Mo_counts 0 (.aload_n 0) 1 1 := ⟨by decide +kernel, rfl⟩
theorem d_Mo_counts_1 : dz b_Mo_counts 1 (.getfield 128) 3 4 := ⟨by decide +kernel, rfl⟩
theorem d_Mo_counts_4 : dz b_Mo_counts 4 (.iload_n 1) 1 5 := ⟨by decide +kernel, rfl⟩
theorem d_Mo_counts_5 : dz b_Mo_counts 5 (.iaload) 1 6 := ⟨by decide +kernel, rfl⟩
theorem d_Mo_counts_6 : dz b_Mo_counts 6 (.iload_n 2) 1 7 := ⟨by decide +kernel, rfl⟩
theorem d_Mo_counts_7 : dj b_Mo_counts 7 (.if_icmp .gt) 10 33 := ⟨26, by decide +kernel, rfl, by decide⟩
theorem d_Mo_counts_10 : dz b_Mo_counts 10 (.aload_n 0) 1 11 := ⟨by decide +kernel, rfl⟩
theorem d_Mo_counts_11 : dz b_Mo_counts 11 (.getfield 134) 3 14 := ⟨by decide +kernel, rfl⟩
theorem d_Mo_counts_14 : dz b_Mo_counts 14 (.iload_n 1) 1 15 := ⟨by decide +kernel, rfl⟩
theorem d_Mo_counts_15 : dz b_Mo_counts 15 (.iaload) 1 16 := ⟨by decide +kernel, rfl⟩
theorem d_Mo_counts_16 : dj b_Mo_counts 16 (.ifCond .lt) 19 29 := ⟨13, by decide +kernel, rfl, by decide⟩
theorem d_Mo_counts_19 : dz b_Mo_counts 19 (.aload_n 0) 1 20 := ⟨by decide +kernel, rfl⟩
theorem d_Mo_counts_20 : dz b_Mo_counts 20 (.getfield 134) 3 23 := ⟨by decide +kernel, rfl⟩
theorem d_Mo_counts_23 : dz b_Mo_counts 23 (.iload_n 1) 1 24 := ⟨by decide +kernel, rfl⟩
theorem d_Mo_counts_24 : dz b_Mo_counts 24 (.iaload) 1 25 := ⟨by decide +kernel, rfl⟩
theorem d_Mo_counts_25 : dz b_Mo_counts 25 (.iload_n 2) 1 26 := ⟨by decide +kernel, rfl⟩
theorem d_Mo_counts_26 : dj b_Mo_counts 26 (.if_icmp .le) 29 33 := ⟨7, by decide +kernel, rfl, by decide⟩
theorem d_Mo_counts_29 : dz b_Mo_counts 29 (.iconst 1) 1 30 := ⟨by decide +kernel, rfl⟩
theorem d_Mo_counts_30 : dj b_Mo_counts 30 (.goto) 33 34 := ⟨4, by decide +kernel, rfl, by decide⟩
theorem d_Mo_counts_33 : dz b_Mo_counts 33 (.iconst 0) 1 34 := ⟨by decide +kernel, rfl⟩
theorem d_Mo_counts_34 : dz b_Mo_counts 34 (.ireturn) 1 35 := ⟨by decide +kernel, rfl⟩
theorem d_Mo_saysOf_0 : dz b_Mo_saysOf 0 (.aload_n 0) 1 1 := ⟨by decide +kernel, rfl⟩
theorem d_Mo_saysOf_1 : dz b_Mo_saysOf 1 (.getfield 153) 3 4 := ⟨by decide +kernel, rfl⟩
theorem d_Mo_saysOf_4 : dz b_Mo_saysOf 4 (.bipush 12) 2 6 := ⟨by decide +kernel, rfl⟩
theorem d_Mo_saysOf_6 : dz b_Mo_saysOf 6 (.iload_n 1) 1 7 := ⟨by decide +kernel, rfl⟩
theorem d_Mo_saysOf_7 : dz b_Mo_saysOf 7 (.imul) 1 8 := ⟨by decide +kernel, rfl⟩
theorem d_Mo_saysOf_8 : dz b_Mo_saysOf 8 (.iload_n 2) 1 9 := ⟨by decide +kernel, rfl⟩
theorem d_Mo_saysOf_9 : dz b_Mo_saysOf 9 (.iadd) 1 10 := ⟨by decide +kernel, rfl⟩
theorem d_Mo_saysOf_10 : dz b_Mo_saysOf 10 (.iaload) 1 11 := ⟨by decide +kernel, rfl⟩
theorem d_Mo_saysOf_11 : dz b_Mo_saysOf 11 (.istore_n 3) 1 12 := ⟨by decide +kernel, rfl⟩
theorem d_Mo_saysOf_12 : dz b_Mo_saysOf 12 (.iload_n 3) 1 13 := ⟨by decide +kernel, rfl⟩
theorem d_Mo_saysOf_13 : dz b_Mo_saysOf 13 (.bipush 8) 2 15 := ⟨by decide +kernel, rfl⟩
theorem d_Mo_saysOf_15 : dj b_Mo_saysOf 15 (.if_icmp .ne) 18 22 := ⟨7, by decide +kernel, rfl, by decide⟩
theorem d_Mo_saysOf_18 : dz b_Mo_saysOf 18 (.iconst 0) 1 19 := ⟨by decide +kernel, rfl⟩
theorem d_Mo_saysOf_19 : dj b_Mo_saysOf 19 (.goto) 22 44 := ⟨25, by decide +kernel, rfl, by decide⟩
theorem d_Mo_saysOf_22 : dz b_Mo_saysOf 22 (.iload_n 3) 1 23 := ⟨by decide +kernel, rfl⟩
theorem d_Mo_saysOf_23 : dj b_Mo_saysOf 23 (.ifCond .le) 26 30 := ⟨7, by decide +kernel, rfl, by decide⟩
theorem d_Mo_saysOf_26 : dz b_Mo_saysOf 26 (.iload_n 3) 1 27 := ⟨by decide +kernel, rfl⟩
theorem d_Mo_saysOf_27 : dj b_Mo_saysOf 27 (.goto) 30 44 := ⟨17, by decide +kernel, rfl, by decide⟩
theorem d_Mo_saysOf_30 : dz b_Mo_saysOf 30 (.aload_n 0) 1 31 := ⟨by decide +kernel, rfl⟩
theorem d_Mo_saysOf_31 : dz b_Mo_saysOf 31 (.getfield 156) 3 34 := ⟨by decide +kernel, rfl⟩
theorem d_Mo_saysOf_34 : dz b_Mo_saysOf 34 (.iload_n 1) 1 35 := ⟨by decide +kernel, rfl⟩
theorem d_Mo_saysOf_35 : dz b_Mo_saysOf 35 (.baload) 1 36 := ⟨by decide +kernel, rfl⟩
theorem d_Mo_saysOf_36 : dj b_Mo_saysOf 36 (.ifCond .eq) 39 43 := ⟨7, by decide +kernel, rfl, by decide⟩
theorem d_Mo_saysOf_39 : dz b_Mo_saysOf 39 (.iconst 0) 1 40 := ⟨by decide +kernel, rfl⟩
theorem d_Mo_saysOf_40 : dj b_Mo_saysOf 40 (.goto) 43 44 := ⟨4, by decide +kernel, rfl, by decide⟩
theorem d_Mo_saysOf_43 : dz b_Mo_saysOf 43 (.iconst 1) 1 44 := ⟨by decide +kernel, rfl⟩
theorem d_Mo_saysOf_44 : dz b_Mo_saysOf 44 (.ireturn) 1 45 := ⟨by decide +kernel, rfl⟩
theorem d_Mo_tellDay_0 : dz b_Mo_tellDay 0 (.iconst 0) 1 1 := ⟨by decide +kernel, rfl⟩
theorem d_Mo_tellDay_1 : dz b_Mo_tellDay 1 (.istore 4) 2 3 := ⟨by decide +kernel, rfl⟩
theorem d_Mo_tellDay_3 : dz b_Mo_tellDay 3 (.iload 4) 2 5 := ⟨by decide +kernel, rfl⟩
theorem d_Mo_tellDay_5 : dz b_Mo_tellDay 5 (.bipush 12) 2 7 := ⟨by decide +kernel, rfl⟩
theorem d_Mo_tellDay_7 : dj b_Mo_tellDay 7 (.if_icmp .ge) 10 24 := ⟨17, by decide +kernel, rfl, by decide⟩
theorem d_Mo_tellDay_10 : dz b_Mo_tellDay 10 (.aload_n 0) 1 11 := ⟨by decide +kernel, rfl⟩
theorem d_Mo_tellDay_11 : dz b_Mo_tellDay 11 (.getfield 171) 3 14 := ⟨by decide +kernel, rfl⟩
theorem d_Mo_tellDay_14 : dz b_Mo_tellDay 14 (.iload 4) 2 16 := ⟨by decide +kernel, rfl⟩
theorem d_Mo_tellDay_16 : dz b_Mo_tellDay 16 (.iconst 0) 1 17 := ⟨by decide +kernel, rfl⟩
theorem d_Mo_tellDay_17 : dz b_Mo_tellDay 17 (.iastore) 1 18 := ⟨by decide +kernel, rfl⟩
theorem d_Mo_tellDay_18 : dz b_Mo_tellDay 18 (.iinc 4 1) 3 21 := ⟨by decide +kernel, rfl⟩
theorem d_Mo_tellDay_21 : dj b_Mo_tellDay 21 (.goto) 24 3 := ⟨(-18), by decide +kernel, rfl, by decide⟩
theorem d_Mo_tellDay_24 : dz b_Mo_tellDay 24 (.iconst (-1)) 1 25 := ⟨by decide +kernel, rfl⟩
theorem d_Mo_tellDay_25 : dz b_Mo_tellDay 25 (.istore 4) 2 27 := ⟨by decide +kernel, rfl⟩
theorem d_Mo_tellDay_27 : dz b_Mo_tellDay 27 (.iconst 0) 1 28 := ⟨by decide +kernel, rfl⟩
theorem d_Mo_tellDay_28 : dz b_Mo_tellDay 28 (.istore 5) 2 30 := ⟨by decide +kernel, rfl⟩
theorem d_Mo_tellDay_30 : dz b_Mo_tellDay 30 (.iconst 0) 1 31 := ⟨by decide +kernel, rfl⟩
theorem d_Mo_tellDay_31 : dz b_Mo_tellDay 31 (.istore 6) 2 33 := ⟨by decide +kernel, rfl⟩
theorem d_Mo_tellDay_33 : dz b_Mo_tellDay 33 (.iload 6) 2 35 := ⟨by decide +kernel, rfl⟩
theorem d_Mo_tellDay_35 : dz b_Mo_tellDay 35 (.aload_n 0) 1 36 := ⟨by decide +kernel, rfl⟩
theorem d_Mo_tellDay_36 : dz b_Mo_tellDay 36 (.getfield 113) 3 39 := ⟨by decide +kernel, rfl⟩
theorem d_Mo_tellDay_39 : dj b_Mo_tellDay 39 (.if_icmp .ge) 42 231 := ⟨192, by decide +kernel, rfl, by decide⟩
theorem d_Mo_tellDay_42 : dz b_Mo_tellDay 42 (.bipush 20) 2 44 := ⟨by decide +kernel, rfl⟩
theorem d_Mo_tellDay_44 : dz b_Mo_tellDay 44 (.iload 6) 2 46 := ⟨by decide +kernel, rfl⟩
theorem d_Mo_tellDay_46 : dz b_Mo_tellDay 46 (.imul) 1 47 := ⟨by decide +kernel, rfl⟩
theorem d_Mo_tellDay_47 : dz b_Mo_tellDay 47 (.istore 7) 2 49 := ⟨by decide +kernel, rfl⟩
theorem d_Mo_tellDay_49 : dz b_Mo_tellDay 49 (.iload 7) 2 51 := ⟨by decide +kernel, rfl⟩
theorem d_Mo_tellDay_51 : dz b_Mo_tellDay 51 (.bipush 20) 2 53 := ⟨by decide +kernel, rfl⟩
theorem d_Mo_tellDay_53 : dz b_Mo_tellDay 53 (.iload 6) 2 55 := ⟨by decide +kernel, rfl⟩
theorem d_Mo_tellDay_55 : dz b_Mo_tellDay 55 (.imul) 1 56 := ⟨by decide +kernel, rfl⟩
theorem d_Mo_tellDay_56 : dz b_Mo_tellDay 56 (.aload_n 0) 1 57 := ⟨by decide +kernel, rfl⟩
theorem d_Mo_tellDay_57 : dz b_Mo_tellDay 57 (.getfield 122) 3 60 := ⟨by decide +kernel, rfl⟩
theorem d_Mo_tellDay_60 : dz b_Mo_tellDay 60 (.iload 6) 2 62 := ⟨by decide +kernel, rfl⟩
theorem d_Mo_tellDay_62 : dz b_Mo_tellDay 62 (.iaload) 1 63 := ⟨by decide +kernel, rfl⟩
theorem d_Mo_tellDay_63 : dz b_Mo_tellDay 63 (.iadd) 1 64 := ⟨by decide +kernel, rfl⟩
theorem d_Mo_tellDay_64 : dj b_Mo_tellDay 64 (.if_icmp .ge) 67 225 := ⟨161, by decide +kernel, rfl, by decide⟩
theorem d_Mo_tellDay_67 : dz b_Mo_tellDay 67 (.aload_n 0) 1 68 := ⟨by decide +kernel, rfl⟩
theorem d_Mo_tellDay_68 : dz b_Mo_tellDay 68 (.iload 6) 2 70 := ⟨by decide +kernel, rfl⟩
theorem d_Mo_tellDay_70 : dz b_Mo_tellDay 70 (.iload_n 3) 1 71 := ⟨by decide +kernel, rfl⟩
theorem d_Mo_tellDay_71 : dz b_Mo_tellDay 71 (.invokevirtual 174) 3 74 := ⟨by decide +kernel, rfl⟩
theorem d_Mo_tellDay_74 : dj b_Mo_tellDay 74 (.ifCond .eq) 77 225 := ⟨151, by decide +kernel, rfl, by decide⟩
theorem d_Mo_tellDay_77 : dz b_Mo_tellDay 77 (.aload_n 0) 1 78 := ⟨by decide +kernel, rfl⟩
theorem d_Mo_tellDay_78 : dz b_Mo_tellDay 78 (.getfield 140) 3 81 := ⟨by decide +kernel, rfl⟩
theorem d_Mo_tellDay_81 : dz b_Mo_tellDay 81 (.iload 7) 2 83 := ⟨by decide +kernel, rfl⟩
theorem d_Mo_tellDay_83 : dz b_Mo_tellDay 83 (.iaload) 1 84 := ⟨by decide +kernel, rfl⟩
theorem d_Mo_tellDay_84 : dz b_Mo_tellDay 84 (.iload_n 2) 1 85 := ⟨by decide +kernel, rfl⟩
theorem d_Mo_tellDay_85 : dj b_Mo_tellDay 85 (.if_icmp .ne) 88 219 := ⟨134, by decide +kernel, rfl, by decide⟩
theorem d_Mo_tellDay_88 : dz b_Mo_tellDay 88 (.aload_n 0) 1 89 := ⟨by decide +kernel, rfl⟩
theorem d_Mo_tellDay_89 : dz b_Mo_tellDay 89 (.getfield 147) 3 92 := ⟨by decide +kernel, rfl⟩
theorem d_Mo_tellDay_92 : dz b_Mo_tellDay 92 (.iload 7) 2 94 := ⟨by decide +kernel, rfl⟩
theorem d_Mo_tellDay_94 : dz b_Mo_tellDay 94 (.iaload) 1 95 := ⟨by decide +kernel, rfl⟩
theorem d_Mo_tellDay_95 : dz b_Mo_tellDay 95 (.iload_n 1) 1 96 := ⟨by decide +kernel, rfl⟩
theorem d_Mo_tellDay_96 : dj b_Mo_tellDay 96 (.if_icmp .eq) 99 102 := ⟨6, by decide +kernel, rfl, by decide⟩
theorem d_Mo_tellDay_99 : dj b_Mo_tellDay 99 (.goto) 102 219 := ⟨120, by decide +kernel, rfl, by decide⟩
theorem d_Mo_tellDay_102 : dz b_Mo_tellDay 102 (.iconst 0) 1 103 := ⟨by decide +kernel, rfl⟩
theorem d_Mo_tellDay_103 : dz b_Mo_tellDay 103 (.istore 8) 2 105 := ⟨by decide +kernel, rfl⟩
theorem d_Mo_tellDay_105 : dz b_Mo_tellDay 105 (.iload 8) 2 107 := ⟨by decide +kernel, rfl⟩
theorem d_Mo_tellDay_107 : dz b_Mo_tellDay 107 (.aload_n 0) 1 108 := ⟨by decide +kernel, rfl⟩
theorem d_Mo_tellDay_108 : dz b_Mo_tellDay 108 (.getfield 1) 3 111 := ⟨by decide +kernel, rfl⟩
theorem d_Mo_tellDay_111 : dj b_Mo_tellDay 111 (.if_icmp .ge) 114 156 := ⟨45, by decide +kernel, rfl, by decide⟩
theorem d_Mo_tellDay_114 : dz b_Mo_tellDay 114 (.aload_n 0) 1 115 := ⟨by decide +kernel, rfl⟩
theorem d_Mo_tellDay_115 : dz b_Mo_tellDay 115 (.getfield 52) 3 118 := ⟨by decide +kernel, rfl⟩
theorem d_Mo_tellDay_118 : dz b_Mo_tellDay 118 (.iload 8) 2 120 := ⟨by decide +kernel, rfl⟩
theorem d_Mo_tellDay_120 : dz b_Mo_tellDay 120 (.iaload) 1 121 := ⟨by decide +kernel, rfl⟩
theorem d_Mo_tellDay_121 : dz b_Mo_tellDay 121 (.iload_n 1) 1 122 := ⟨by decide +kernel, rfl⟩
theorem d_Mo_tellDay_122 : dj b_Mo_tellDay 122 (.if_icmp .ne) 125 150 := ⟨28, by decide +kernel, rfl, by decide⟩
theorem d_Mo_tellDay_125 : dz b_Mo_tellDay 125 (.aload_n 0) 1 126 := ⟨by decide +kernel, rfl⟩
theorem d_Mo_tellDay_126 : dz b_Mo_tellDay 126 (.getfield 171) 3 129 := ⟨by decide +kernel, rfl⟩
theorem d_Mo_tellDay_129 : dz b_Mo_tellDay 129 (.iload 8) 2 131 := ⟨by decide +kernel, rfl⟩
theorem d_Mo_tellDay_131 : dz b_Mo_tellDay 131 (.aload_n 0) 1 132 := ⟨by decide +kernel, rfl⟩
theorem d_Mo_tellDay_132 : dz b_Mo_tellDay 132 (.getfield 171) 3 135 := ⟨by decide +kernel, rfl⟩
theorem d_Mo_tellDay_135 : dz b_Mo_tellDay 135 (.iload 8) 2 137 := ⟨by decide +kernel, rfl⟩
theorem d_Mo_tellDay_137 : dz b_Mo_tellDay 137 (.iaload) 1 138 := ⟨by decide +kernel, rfl⟩
theorem d_Mo_tellDay_138 : dz b_Mo_tellDay 138 (.aload_n 0) 1 139 := ⟨by decide +kernel, rfl⟩
theorem d_Mo_tellDay_139 : dz b_Mo_tellDay 139 (.iload 7) 2 141 := ⟨by decide +kernel, rfl⟩
theorem d_Mo_tellDay_141 : dz b_Mo_tellDay 141 (.iload 8) 2 143 := ⟨by decide +kernel, rfl⟩
theorem d_Mo_tellDay_143 : dz b_Mo_tellDay 143 (.invokevirtual 178) 3 146 := ⟨by decide +kernel, rfl⟩
theorem d_Mo_tellDay_146 : dz b_Mo_tellDay 146 (.invokestatic 182) 3 149 := ⟨by decide +kernel, rfl⟩
theorem d_Mo_tellDay_149 : dz b_Mo_tellDay 149 (.iastore) 1 150 := ⟨by decide +kernel, rfl⟩
theorem d_Mo_tellDay_150 : dz b_Mo_tellDay 150 (.iinc 8 1) 3 153 := ⟨by decide +kernel, rfl⟩
theorem d_Mo_tellDay_153 : dj b_Mo_tellDay 153 (.goto) 156 105 := ⟨(-48), by decide +kernel, rfl, by decide⟩
theorem d_Mo_tellDay_156 : dz b_Mo_tellDay 156 (.iload 5) 2 158 := ⟨by decide +kernel, rfl⟩
theorem d_Mo_tellDay_158 : dj b_Mo_tellDay 158 (.ifCond .ne) 161 188 := ⟨30, by decide +kernel, rfl, by decide⟩
theorem d_Mo_tellDay_161 : dz b_Mo_tellDay 161 (.iload 4) 2 163 := ⟨by decide +kernel, rfl⟩
theorem d_Mo_tellDay_163 : dj b_Mo_tellDay 163 (.ifCond .lt) 166 192 := ⟨29, by decide +kernel, rfl, by decide⟩
theorem d_Mo_tellDay_166 : dz b_Mo_tellDay 166 (.aload_n 0) 1 167 := ⟨by decide +kernel, rfl⟩
theorem d_Mo_tellDay_167 : dz b_Mo_tellDay 167 (.getfield 160) 3 170 := ⟨by decide +kernel, rfl⟩
theorem d_Mo_tellDay_170 : dz b_Mo_tellDay 170 (.iload 7) 2 172 := ⟨by decide +kernel, rfl⟩
theorem d_Mo_tellDay_172 : dz b_Mo_tellDay 172 (.iaload) 1 173 := ⟨by decide +kernel, rfl⟩
theorem d_Mo_tellDay_173 : dj b_Mo_tellDay 173 (.ifCond .lt) 176 192 := ⟨19, by decide +kernel, rfl, by decide⟩
theorem d_Mo_tellDay_176 : dz b_Mo_tellDay 176 (.aload_n 0) 1 177 := ⟨by decide +kernel, rfl⟩
theorem d_Mo_tellDay_177 : dz b_Mo_tellDay 177 (.getfield 160) 3 180 := ⟨by decide +kernel, rfl⟩
theorem d_Mo_tellDay_180 : dz b_Mo_tellDay 180 (.iload 7) 2 182 := ⟨by decide +kernel, rfl⟩
theorem d_Mo_tellDay_182 : dz b_Mo_tellDay 182 (.iaload) 1 183 := ⟨by decide +kernel, rfl⟩
theorem d_Mo_tellDay_183 : dz b_Mo_tellDay 183 (.iload 4) 2 185 := ⟨by decide +kernel, rfl⟩
theorem d_Mo_tellDay_185 : dj b_Mo_tellDay 185 (.if_icmp .eq) 188 192 := ⟨7, by decide +kernel, rfl, by decide⟩
theorem d_Mo_tellDay_188 : dz b_Mo_tellDay 188 (.iconst 1) 1 189 := ⟨by decide +kernel, rfl⟩
theorem d_Mo_tellDay_189 : dj b_Mo_tellDay 189 (.goto) 192 193 := ⟨4, by decide +kernel, rfl, by decide⟩
theorem d_Mo_tellDay_192 : dz b_Mo_tellDay 192 (.iconst 0) 1 193 := ⟨by decide +kernel, rfl⟩
theorem d_Mo_tellDay_193 : dz b_Mo_tellDay 193 (.istore 5) 2 195 := ⟨by decide +kernel, rfl⟩
theorem d_Mo_tellDay_195 : dz b_Mo_tellDay 195 (.aload_n 0) 1 196 := ⟨by decide +kernel, rfl⟩
theorem d_Mo_tellDay_196 : dz b_Mo_tellDay 196 (.getfield 160) 3 199 := ⟨by decide +kernel, rfl⟩
theorem d_Mo_tellDay_199 : dz b_Mo_tellDay 199 (.iload 7) 2 201 := ⟨by decide +kernel, rfl⟩
theorem d_Mo_tellDay_201 : dz b_Mo_tellDay 201 (.iaload) 1 202 := ⟨by decide +kernel, rfl⟩
theorem d_Mo_tellDay_202 : dj b_Mo_tellDay 202 (.ifCond .ge) 205 210 := ⟨8, by decide +kernel, rfl, by decide⟩
theorem d_Mo_tellDay_205 : dz b_Mo_tellDay 205 (.iload 4) 2 207 := ⟨by decide +kernel, rfl⟩
theorem d_Mo_tellDay_207 : dj b_Mo_tellDay 207 (.goto) 210 217 := ⟨10, by decide +kernel, rfl, by decide⟩
theorem d_Mo_tellDay_210 : dz b_Mo_tellDay 210 (.aload_n 0) 1 211 := ⟨by decide +kernel, rfl⟩
theorem d_Mo_tellDay_211 : dz b_Mo_tellDay 211 (.getfield 160) 3 214 := ⟨by decide +kernel, rfl⟩
theorem d_Mo_tellDay_214 : dz b_Mo_tellDay 214 (.iload 7) 2 216 := ⟨by decide +kernel, rfl⟩
theorem d_Mo_tellDay_216 : dz b_Mo_tellDay 216 (.iaload) 1 217 := ⟨by decide +kernel, rfl⟩
theorem d_Mo_tellDay_217 : dz b_Mo_tellDay 217 (.istore 4) 2 219 := ⟨by decide +kernel, rfl⟩
theorem d_Mo_tellDay_219 : dz b_Mo_tellDay 219 (.iinc 7 1) 3 222 := ⟨by decide +kernel, rfl⟩
theorem d_Mo_tellDay_222 : dj b_Mo_tellDay 222 (.goto) 225 49 := ⟨(-173), by decide +kernel, rfl, by decide⟩
theorem d_Mo_tellDay_225 : dz b_Mo_tellDay 225 (.iinc 6 1) 3 228 := ⟨by decide +kernel, rfl⟩
theorem d_Mo_tellDay_228 : dj b_Mo_tellDay 228 (.goto) 231 33 := ⟨(-195), by decide +kernel, rfl, by decide⟩
theorem d_Mo_tellDay_231 : dz b_Mo_tellDay 231 (.aload_n 0) 1 232 := ⟨by decide +kernel, rfl⟩
theorem d_Mo_tellDay_232 : dz b_Mo_tellDay 232 (.iload 4) 2 234 := ⟨by decide +kernel, rfl⟩
theorem d_Mo_tellDay_234 : dj b_Mo_tellDay 234 (.ifCond .ge) 237 241 := ⟨7, by decide +kernel, rfl, by decide⟩
theorem d_Mo_tellDay_237 : dz b_Mo_tellDay 237 (.iconst 0) 1 238 := ⟨by decide +kernel, rfl⟩
theorem d_Mo_tellDay_238 : dj b_Mo_tellDay 238 (.goto) 241 259 := ⟨21, by decide +kernel, rfl, by decide⟩
theorem d_Mo_tellDay_241 : dz b_Mo_tellDay 241 (.iload 5) 2 243 := ⟨by decide +kernel, rfl⟩
theorem d_Mo_tellDay_243 : dj b_Mo_tellDay 243 (.ifCond .eq) 246 250 := ⟨7, by decide +kernel, rfl, by decide⟩
theorem d_Mo_tellDay_246 : dz b_Mo_tellDay 246 (.iconst 1) 1 247 := ⟨by decide +kernel, rfl⟩
theorem d_Mo_tellDay_247 : dj b_Mo_tellDay 247 (.goto) 250 259 := ⟨12, by decide +kernel, rfl, by decide⟩
theorem d_Mo_tellDay_250 : dz b_Mo_tellDay 250 (.aload_n 0) 1 251 := ⟨by decide +kernel, rfl⟩
theorem d_Mo_tellDay_251 : dz b_Mo_tellDay 251 (.iload_n 1) 1 252 := ⟨by decide +kernel, rfl⟩
theorem d_Mo_tellDay_252 : dz b_Mo_tellDay 252 (.iload 4) 2 254 := ⟨by decide +kernel, rfl⟩
theorem d_Mo_tellDay_254 : dz b_Mo_tellDay 254 (.iconst 2) 1 255 := ⟨by decide +kernel, rfl⟩
theorem d_Mo_tellDay_255 : dz b_Mo_tellDay 255 (.idiv) 1 256 := ⟨by decide +kernel, rfl⟩
theorem d_Mo_tellDay_256 : dz b_Mo_tellDay 256 (.invokevirtual 185) 3 259 := ⟨by decide +kernel, rfl⟩
theorem d_Mo_tellDay_259 : dz b_Mo_tellDay 259 (.putfield 188) 3 262 := ⟨by decide +kernel, rfl⟩
theorem d_Mo_tellDay_262 : dz b_Mo_tellDay 262 (.return_) 1 263 := ⟨by decide +kernel, rfl⟩
theorem d_Mo_joined_0 : dz b_Mo_joined 0 (.iload_n 1) 1 1 := ⟨by decide +kernel, rfl⟩
theorem d_Mo_joined_1 : dj b_Mo_joined 1 (.ifCond .eq) 4 10 := ⟨9, by decide +kernel, rfl, by decide⟩
theorem d_Mo_joined_4 : dz b_Mo_joined 4 (.iload_n 0) 1 5 := ⟨by decide +kernel, rfl⟩
theorem d_Mo_joined_5 : dz b_Mo_joined 5 (.bipush 7) 2 7 := ⟨by decide +kernel, rfl⟩
theorem d_Mo_joined_7 : dj b_Mo_joined 7 (.if_icmp .ne) 10 12 := ⟨5, by decide +kernel, rfl, by decide⟩
theorem d_Mo_joined_10 : dz b_Mo_joined 10 (.iload_n 0) 1 11 := ⟨by decide +kernel, rfl⟩
theorem d_Mo_joined_11 : dz b_Mo_joined 11 (.ireturn) 1 12 := ⟨by decide +kernel, rfl⟩
theorem d_Mo_joined_12 : dz b_Mo_joined 12 (.iload_n 0) 1 13 := ⟨by decide +kernel, rfl⟩
theorem d_Mo_joined_13 : dj b_Mo_joined 13 (.ifCond .ne) 16 18 := ⟨5, by decide +kernel, rfl, by decide⟩
theorem d_Mo_joined_16 : dz b_Mo_joined 16 (.iload_n 1) 1 17 := ⟨by decide +kernel, rfl⟩
theorem d_Mo_joined_17 : dz b_Mo_joined 17 (.ireturn) 1 18 := ⟨by decide +kernel, rfl⟩
theorem d_Mo_joined_18 : dz b_Mo_joined 18 (.iload_n 0) 1 19 := ⟨by decide +kernel, rfl⟩
theorem d_Mo_joined_19 : dz b_Mo_joined 19 (.iconst 1) 1 20 := ⟨by decide +kernel, rfl⟩
theorem d_Mo_joined_20 : dj b_Mo_joined 20 (.if_icmp .ne) 23 27 := ⟨7, by decide +kernel, rfl, by decide⟩
theorem d_Mo_joined_23 : dz b_Mo_joined 23 (.iconst 1) 1 24 := ⟨by decide +kernel, rfl⟩
theorem d_Mo_joined_24 : dj b_Mo_joined 24 (.goto) 27 28 := ⟨4, by decide +kernel, rfl, by decide⟩
theorem d_Mo_joined_27 : dz b_Mo_joined 27 (.iconst 0) 1 28 := ⟨by decide +kernel, rfl⟩
theorem d_Mo_joined_28 : dz b_Mo_joined 28 (.iload_n 1) 1 29 := ⟨by decide +kernel, rfl⟩
theorem d_Mo_joined_29 : dz b_Mo_joined 29 (.iconst 1) 1 30 := ⟨by decide +kernel, rfl⟩
theorem d_Mo_joined_30 : dj b_Mo_joined 30 (.if_icmp .ne) 33 37 := ⟨7, by decide +kernel, rfl, by decide⟩
theorem d_Mo_joined_33 : dz b_Mo_joined 33 (.iconst 1) 1 34 := ⟨by decide +kernel, rfl⟩
theorem d_Mo_joined_34 : dj b_Mo_joined 34 (.goto) 37 38 := ⟨4, by decide +kernel, rfl, by decide⟩
theorem d_Mo_joined_37 : dz b_Mo_joined 37 (.iconst 0) 1 38 := ⟨by decide +kernel, rfl⟩
theorem d_Mo_joined_38 : dj b_Mo_joined 38 (.if_icmp .ne) 41 45 := ⟨7, by decide +kernel, rfl, by decide⟩
theorem d_Mo_joined_41 : dz b_Mo_joined 41 (.iload_n 0) 1 42 := ⟨by decide +kernel, rfl⟩
theorem d_Mo_joined_42 : dj b_Mo_joined 42 (.goto) 45 47 := ⟨5, by decide +kernel, rfl, by decide⟩
theorem d_Mo_joined_45 : dz b_Mo_joined 45 (.bipush 7) 2 47 := ⟨by decide +kernel, rfl⟩
theorem d_Mo_joined_47 : dz b_Mo_joined 47 (.ireturn) 1 48 := ⟨by decide +kernel, rfl⟩
theorem d_Mo_burn_0 : dz b_Mo_burn 0 (.iconst 0) 1 1 := ⟨by decide +kernel, rfl⟩
theorem d_Mo_burn_1 : dz b_Mo_burn 1 (.istore_n 3) 1 2 := ⟨by decide +kernel, rfl⟩
theorem d_Mo_burn_2 : dz b_Mo_burn 2 (.iload_n 2) 1 3 := ⟨by decide +kernel, rfl⟩
theorem d_Mo_burn_3 : dz b_Mo_burn 3 (.istore 4) 2 5 := ⟨by decide +kernel, rfl⟩
theorem d_Mo_burn_5 : dz b_Mo_burn 5 (.iconst 0) 1 6 := ⟨by decide +kernel, rfl⟩
theorem d_Mo_burn_6 : dz b_Mo_burn 6 (.istore 5) 2 8 := ⟨by decide +kernel, rfl⟩
theorem d_Mo_burn_8 : dz b_Mo_burn 8 (.iload 5) 2 10 := ⟨by decide +kernel, rfl⟩
theorem d_Mo_burn_10 : dz b_Mo_burn 10 (.aload_n 0) 1 11 := ⟨by decide +kernel, rfl⟩
theorem d_Mo_burn_11 : dz b_Mo_burn 11 (.getfield 1) 3 14 := ⟨by decide +kernel, rfl⟩
theorem d_Mo_burn_14 : dj b_Mo_burn 14 (.if_icmp .ge) 17 90 := ⟨76, by decide +kernel, rfl, by decide⟩
theorem d_Mo_burn_17 : dz b_Mo_burn 17 (.aload_n 0) 1 18 := ⟨by decide +kernel, rfl⟩
theorem d_Mo_burn_18 : dz b_Mo_burn 18 (.getfield 52) 3 21 := ⟨by decide +kernel, rfl⟩
theorem d_Mo_burn_21 : dz b_Mo_burn 21 (.iload 5) 2 23 := ⟨by decide +kernel, rfl⟩
theorem d_Mo_burn_23 : dz b_Mo_burn 23 (.iaload) 1 24 := ⟨by decide +kernel, rfl⟩
theorem d_Mo_burn_24 : dz b_Mo_burn 24 (.iload_n 1) 1 25 := ⟨by decide +kernel, rfl⟩
theorem d_Mo_burn_25 : dj b_Mo_burn 25 (.if_icmp .eq) 28 31 := ⟨6, by decide +kernel, rfl, by decide⟩
theorem d_Mo_burn_28 : dj b_Mo_burn 28 (.goto) 31 84 := ⟨56, by decide +kernel, rfl, by decide⟩
theorem d_Mo_burn_31 : dz b_Mo_burn 31 (.aload_n 0) 1 32 := ⟨by decide +kernel, rfl⟩
theorem d_Mo_burn_32 : dz b_Mo_burn 32 (.getfield 171) 3 35 := ⟨by decide +kernel, rfl⟩
theorem d_Mo_burn_35 : dz b_Mo_burn 35 (.iload 5) 2 37 := ⟨by decide +kernel, rfl⟩
theorem d_Mo_burn_37 : dz b_Mo_burn 37 (.iaload) 1 38 := ⟨by decide +kernel, rfl⟩
theorem d_Mo_burn_38 : dz b_Mo_burn 38 (.bipush 7) 2 40 := ⟨by decide +kernel, rfl⟩
theorem d_Mo_burn_40 : dj b_Mo_burn 40 (.if_icmp .ne) 43 45 := ⟨5, by decide +kernel, rfl, by decide⟩
theorem d_Mo_burn_43 : dz b_Mo_burn 43 (.iconst 1) 1 44 := ⟨by decide +kernel, rfl⟩
theorem d_Mo_burn_44 : dz b_Mo_burn 44 (.ireturn) 1 45 := ⟨by decide +kernel, rfl⟩
theorem d_Mo_burn_45 : dz b_Mo_burn 45 (.iload_n 3) 1 46 := ⟨by decide +kernel, rfl⟩
theorem d_Mo_burn_46 : dz b_Mo_burn 46 (.aload_n 0) 1 47 := ⟨by decide +kernel, rfl⟩
theorem d_Mo_burn_47 : dz b_Mo_burn 47 (.getfield 171) 3 50 := ⟨by decide +kernel, rfl⟩
theorem d_Mo_burn_50 : dz b_Mo_burn 50 (.iload 5) 2 52 := ⟨by decide +kernel, rfl⟩
theorem d_Mo_burn_52 : dz b_Mo_burn 52 (.iaload) 1 53 := ⟨by decide +kernel, rfl⟩
theorem d_Mo_burn_53 : dj b_Mo_burn 53 (.ifCond .ne) 56 60 := ⟨7, by decide +kernel, rfl, by decide⟩
theorem d_Mo_burn_56 : dz b_Mo_burn 56 (.iconst 1) 1 57 := ⟨by decide +kernel, rfl⟩
theorem d_Mo_burn_57 : dj b_Mo_burn 57 (.goto) 60 61 := ⟨4, by decide +kernel, rfl, by decide⟩
theorem d_Mo_burn_60 : dz b_Mo_burn 60 (.iconst 0) 1 61 := ⟨by decide +kernel, rfl⟩
theorem d_Mo_burn_61 : dz b_Mo_burn 61 (.iadd) 1 62 := ⟨by decide +kernel, rfl⟩
theorem d_Mo_burn_62 : dz b_Mo_burn 62 (.istore_n 3) 1 63 := ⟨by decide +kernel, rfl⟩
theorem d_Mo_burn_63 : dz b_Mo_burn 63 (.iload 4) 2 65 := ⟨by decide +kernel, rfl⟩
theorem d_Mo_burn_65 : dz b_Mo_burn 65 (.aload_n 0) 1 66 := ⟨by decide +kernel, rfl⟩
theorem d_Mo_burn_66 : dz b_Mo_burn 66 (.getfield 171) 3 69 := ⟨by decide +kernel, rfl⟩
theorem d_Mo_burn_69 : dz b_Mo_burn 69 (.iload 5) 2 71 := ⟨by decide +kernel, rfl⟩
theorem d_Mo_burn_71 : dz b_Mo_burn 71 (.iaload) 1 72 := ⟨by decide +kernel, rfl⟩
theorem d_Mo_burn_72 : dz b_Mo_burn 72 (.iconst 1) 1 73 := ⟨by decide +kernel, rfl⟩
theorem d_Mo_burn_73 : dj b_Mo_burn 73 (.if_icmp .ne) 76 80 := ⟨7, by decide +kernel, rfl, by decide⟩
theorem d_Mo_burn_76 : dz b_Mo_burn 76 (.iconst 1) 1 77 := ⟨by decide +kernel, rfl⟩
theorem d_Mo_burn_77 : dj b_Mo_burn 77 (.goto) 80 81 := ⟨4, by decide +kernel, rfl, by decide⟩
theorem d_Mo_burn_80 : dz b_Mo_burn 80 (.iconst 0) 1 81 := ⟨by decide +kernel, rfl⟩
theorem d_Mo_burn_81 : dz b_Mo_burn 81 (.isub) 1 82 := ⟨by decide +kernel, rfl⟩
theorem d_Mo_burn_82 : dz b_Mo_burn 82 (.istore 4) 2 84 := ⟨by decide +kernel, rfl⟩
theorem d_Mo_burn_84 : dz b_Mo_burn 84 (.iinc 5 1) 3 87 := ⟨by decide +kernel, rfl⟩
theorem d_Mo_burn_87 : dj b_Mo_burn 87 (.goto) 90 8 := ⟨(-79), by decide +kernel, rfl, by decide⟩
theorem d_Mo_burn_90 : dz b_Mo_burn 90 (.iload 4) 2 92 := ⟨by decide +kernel, rfl⟩
theorem d_Mo_burn_92 : dj b_Mo_burn 92 (.ifCond .lt) 95 101 := ⟨9, by decide +kernel, rfl, by decide⟩
theorem d_Mo_burn_95 : dz b_Mo_burn 95 (.iload 4) 2 97 := ⟨by decide +kernel, rfl⟩
theorem d_Mo_burn_97 : dz b_Mo_burn 97 (.iload_n 3) 1 98 := ⟨by decide +kernel, rfl⟩
theorem d_Mo_burn_98 : dj b_Mo_burn 98 (.if_icmp .le) 101 103 := ⟨5, by decide +kernel, rfl, by decide⟩
theorem d_Mo_burn_101 : dz b_Mo_burn 101 (.iconst 1) 1 102 := ⟨by decide +kernel, rfl⟩
theorem d_Mo_burn_102 : dz b_Mo_burn 102 (.ireturn) 1 103 := ⟨by decide +kernel, rfl⟩
theorem d_Mo_burn_103 : dz b_Mo_burn 103 (.iconst 0) 1 104 := ⟨by decide +kernel, rfl⟩
theorem d_Mo_burn_104 : dz b_Mo_burn 104 (.istore 5) 2 106 := ⟨by decide +kernel, rfl⟩
theorem d_Mo_burn_106 : dz b_Mo_burn 106 (.iload 5) 2 108 := ⟨by decide +kernel, rfl⟩
theorem d_Mo_burn_108 : dz b_Mo_burn 108 (.aload_n 0) 1 109 := ⟨by decide +kernel, rfl⟩
theorem d_Mo_burn_109 : dz b_Mo_burn 109 (.getfield 1) 3 112 := ⟨by decide +kernel, rfl⟩
theorem d_Mo_burn_112 : dj b_Mo_burn 112 (.if_icmp .ge) 115 171 := ⟨59, by decide +kernel, rfl, by decide⟩
theorem d_Mo_burn_115 : dz b_Mo_burn 115 (.aload_n 0) 1 116 := ⟨by decide +kernel, rfl⟩
theorem d_Mo_burn_116 : dz b_Mo_burn 116 (.getfield 52) 3 119 := ⟨by decide +kernel, rfl⟩
theorem d_Mo_burn_119 : dz b_Mo_burn 119 (.iload 5) 2 121 := ⟨by decide +kernel, rfl⟩
theorem d_Mo_burn_121 : dz b_Mo_burn 121 (.iaload) 1 122 := ⟨by decide +kernel, rfl⟩
theorem d_Mo_burn_122 : dz b_Mo_burn 122 (.iload_n 1) 1 123 := ⟨by decide +kernel, rfl⟩
theorem d_Mo_burn_123 : dj b_Mo_burn 123 (.if_icmp .ne) 126 165 := ⟨42, by decide +kernel, rfl, by decide⟩
theorem d_Mo_burn_126 : dz b_Mo_burn 126 (.aload_n 0) 1 127 := ⟨by decide +kernel, rfl⟩
theorem d_Mo_burn_127 : dz b_Mo_burn 127 (.getfield 171) 3 130 := ⟨by decide +kernel, rfl⟩
theorem d_Mo_burn_130 : dz b_Mo_burn 130 (.iload 5) 2 132 := ⟨by decide +kernel, rfl⟩
theorem d_Mo_burn_132 : dz b_Mo_burn 132 (.iaload) 1 133 := ⟨by decide +kernel, rfl⟩
theorem d_Mo_burn_133 : dj b_Mo_burn 133 (.ifCond .ne) 136 165 := ⟨32, by decide +kernel, rfl, by decide⟩
theorem d_Mo_burn_136 : dz b_Mo_burn 136 (.iload 4) 2 138 := ⟨by decide +kernel, rfl⟩
theorem d_Mo_burn_138 : dz b_Mo_burn 138 (.iload_n 3) 1 139 := ⟨by decide +kernel, rfl⟩
theorem d_Mo_burn_139 : dj b_Mo_burn 139 (.if_icmp .eq) 142 147 := ⟨8, by decide +kernel, rfl, by decide⟩
theorem d_Mo_burn_142 : dz b_Mo_burn 142 (.iload 4) 2 144 := ⟨by decide +kernel, rfl⟩
theorem d_Mo_burn_144 : dj b_Mo_burn 144 (.ifCond .ne) 147 165 := ⟨21, by decide +kernel, rfl, by decide⟩
theorem d_Mo_burn_147 : dz b_Mo_burn 147 (.aload_n 0) 1 148 := ⟨by decide +kernel, rfl⟩
theorem d_Mo_burn_148 : dz b_Mo_burn 148 (.getfield 171) 3 151 := ⟨by decide +kernel, rfl⟩
theorem d_Mo_burn_151 : dz b_Mo_burn 151 (.iload 5) 2 153 := ⟨by decide +kernel, rfl⟩
theorem d_Mo_burn_153 : dz b_Mo_burn 153 (.iload 4) 2 155 := ⟨by decide +kernel, rfl⟩
theorem d_Mo_burn_155 : dj b_Mo_burn 155 (.ifCond .ne) 158 163 := ⟨8, by decide +kernel, rfl, by decide⟩
theorem d_Mo_burn_158 : dz b_Mo_burn 158 (.bipush 6) 2 160 := ⟨by decide +kernel, rfl⟩
theorem d_Mo_burn_160 : dj b_Mo_burn 160 (.goto) 163 164 := ⟨4, by decide +kernel, rfl, by decide⟩
theorem d_Mo_burn_163 : dz b_Mo_burn 163 (.iconst 1) 1 164 := ⟨by decide +kernel, rfl⟩
theorem d_Mo_burn_164 : dz b_Mo_burn 164 (.iastore) 1 165 := ⟨by decide +kernel, rfl⟩
theorem d_Mo_burn_165 : dz b_Mo_burn 165 (.iinc 5 1) 3 168 := ⟨by decide +kernel, rfl⟩
theorem d_Mo_burn_168 : dj b_Mo_burn 168 (.goto) 171 106 := ⟨(-62), by decide +kernel, rfl, by decide⟩
theorem d_Mo_burn_171 : dz b_Mo_burn 171 (.iconst 2) 1 172 := ⟨by decide +kernel, rfl⟩
theorem d_Mo_burn_172 : dz b_Mo_burn 172 (.ireturn) 1 173 := ⟨by decide +kernel, rfl⟩
theorem d_Mo_isDay_0 : dz b_Mo_isDay 0 (.iload_n 0) 1 1 := ⟨by decide +kernel, rfl⟩
theorem d_Mo_isDay_1 : dj b_Mo_isDay 1 (.ifCond .lt) 4 15 := ⟨14, by decide +kernel, rfl, by decide⟩
theorem d_Mo_isDay_4 : dz b_Mo_isDay 4 (.iload_n 0) 1 5 := ⟨by decide +kernel, rfl⟩
theorem d_Mo_isDay_5 : dz b_Mo_isDay 5 (.sipush 3600) 3 8 := ⟨by decide +kernel, rfl⟩
theorem d_Mo_isDay_8 : dj b_Mo_isDay 8 (.if_icmp .ge) 11 15 := ⟨7, by decide +kernel, rfl, by decide⟩
theorem d_Mo_isDay_11 : dz b_Mo_isDay 11 (.iconst 1) 1 12 := ⟨by decide +kernel, rfl⟩
theorem d_Mo_isDay_12 : dj b_Mo_isDay 12 (.goto) 15 16 := ⟨4, by decide +kernel, rfl, by decide⟩
theorem d_Mo_isDay_15 : dz b_Mo_isDay 15 (.iconst 0) 1 16 := ⟨by decide +kernel, rfl⟩
theorem d_Mo_isDay_16 : dz b_Mo_isDay 16 (.ireturn) 1 17 := ⟨by decide +kernel, rfl⟩
theorem d_Mo_dayOf_0 : dz b_Mo_dayOf 0 (.aload_n 0) 1 1 := ⟨by decide +kernel, rfl⟩
theorem d_Mo_dayOf_1 : dz b_Mo_dayOf 1 (.aload_n 0) 1 2 := ⟨by decide +kernel, rfl⟩
theorem d_Mo_dayOf_2 : dz b_Mo_dayOf 2 (.getfield 52) 3 5 := ⟨by decide +kernel, rfl⟩
theorem d_Mo_dayOf_5 : dz b_Mo_dayOf 5 (.iload_n 1) 1 6 := ⟨by decide +kernel, rfl⟩
theorem d_Mo_dayOf_6 : dz b_Mo_dayOf 6 (.iaload) 1 7 := ⟨by decide +kernel, rfl⟩
theorem d_Mo_dayOf_7 : dz b_Mo_dayOf 7 (.iload_n 2) 1 8 := ⟨by decide +kernel, rfl⟩
theorem d_Mo_dayOf_8 : dz b_Mo_dayOf 8 (.iload_n 3) 1 9 := ⟨by decide +kernel, rfl⟩
theorem d_Mo_dayOf_9 : dz b_Mo_dayOf 9 (.invokevirtual 191) 3 12 := ⟨by decide +kernel, rfl⟩
theorem d_Mo_dayOf_12 : dz b_Mo_dayOf 12 (.aload_n 0) 1 13 := ⟨by decide +kernel, rfl⟩
theorem d_Mo_dayOf_13 : dz b_Mo_dayOf 13 (.getfield 171) 3 16 := ⟨by decide +kernel, rfl⟩
theorem d_Mo_dayOf_16 : dz b_Mo_dayOf 16 (.iload_n 1) 1 17 := ⟨by decide +kernel, rfl⟩
theorem d_Mo_dayOf_17 : dz b_Mo_dayOf 17 (.iaload) 1 18 := ⟨by decide +kernel, rfl⟩
theorem d_Mo_dayOf_18 : dz b_Mo_dayOf 18 (.ireturn) 1 19 := ⟨by decide +kernel, rfl⟩
theorem d_Mo_day_0 : dz b_Mo_day 0 (.aload_n 0) 1 1 := ⟨by decide +kernel, rfl⟩
theorem d_Mo_day_1 : dz b_Mo_day 1 (.iload_n 1) 1 2 := ⟨by decide +kernel, rfl⟩
theorem d_Mo_day_2 : dz b_Mo_day 2 (.invokevirtual 59) 3 5 := ⟨by decide +kernel, rfl⟩
theorem d_Mo_day_5 : dj b_Mo_day 5 (.ifCond .eq) 8 25 := ⟨20, by decide +kernel, rfl, by decide⟩
theorem d_Mo_day_8 : dz b_Mo_day 8 (.iload_n 2) 1 9 := ⟨by decide +kernel, rfl⟩
theorem d_Mo_day_9 : dz b_Mo_day 9 (.invokestatic 195) 3 12 := ⟨by decide +kernel, rfl⟩
theorem d_Mo_day_12 : dj b_Mo_day 12 (.ifCond .eq) 15 25 := ⟨13, by decide +kernel, rfl, by decide⟩
theorem d_Mo_day_15 : dz b_Mo_day 15 (.aload_n 0) 1 16 := ⟨by decide +kernel, rfl⟩
theorem d_Mo_day_16 : dz b_Mo_day 16 (.iload_n 1) 1 17 := ⟨by decide +kernel, rfl⟩
theorem d_Mo_day_17 : dz b_Mo_day 17 (.iload_n 2) 1 18 := ⟨by decide +kernel, rfl⟩
theorem d_Mo_day_18 : dz b_Mo_day 18 (.iload_n 3) 1 19 := ⟨by decide +kernel, rfl⟩
theorem d_Mo_day_19 : dz b_Mo_day 19 (.invokevirtual 198) 3 22 := ⟨by decide +kernel, rfl⟩
theorem d_Mo_day_22 : dj b_Mo_day 22 (.goto) 25 26 := ⟨4, by decide +kernel, rfl, by decide⟩
theorem d_Mo_day_25 : dz b_Mo_day 25 (.iconst (-1)) 1 26 := ⟨by decide +kernel, rfl⟩
theorem d_Mo_day_26 : dz b_Mo_day 26 (.ireturn) 1 27 := ⟨by decide +kernel, rfl⟩
theorem d_Mo_wicks_0 : dz b_Mo_wicks 0 (.iload_n 1) 1 1 := ⟨by decide +kernel, rfl⟩
theorem d_Mo_wicks_1 : dj b_Mo_wicks 1 (.ifCond .lt) 4 16 := ⟨15, by decide +kernel, rfl, by decide⟩
theorem d_Mo_wicks_4 : dz b_Mo_wicks 4 (.iload_n 1) 1 5 := ⟨by decide +kernel, rfl⟩
theorem d_Mo_wicks_5 : dz b_Mo_wicks 5 (.iconst 1) 1 6 := ⟨by decide +kernel, rfl⟩
theorem d_Mo_wicks_6 : dj b_Mo_wicks 6 (.if_icmp .gt) 9 16 := ⟨10, by decide +kernel, rfl, by decide⟩
theorem d_Mo_wicks_9 : dz b_Mo_wicks 9 (.iload_n 2) 1 10 := ⟨by decide +kernel, rfl⟩
theorem d_Mo_wicks_10 : dz b_Mo_wicks 10 (.invokestatic 195) 3 13 := ⟨by decide +kernel, rfl⟩
theorem d_Mo_wicks_13 : dj b_Mo_wicks 13 (.ifCond .ne) 16 18 := ⟨5, by decide +kernel, rfl, by decide⟩
theorem d_Mo_wicks_16 : dz b_Mo_wicks 16 (.iconst (-1)) 1 17 := ⟨by decide +kernel, rfl⟩
theorem d_Mo_wicks_17 : dz b_Mo_wicks 17 (.ireturn) 1 18 := ⟨by decide +kernel, rfl⟩
theorem d_Mo_wicks_18 : dz b_Mo_wicks 18 (.aload_n 0) 1 19 := ⟨by decide +kernel, rfl⟩
theorem d_Mo_wicks_19 : dz b_Mo_wicks 19 (.iload_n 1) 1 20 := ⟨by decide +kernel, rfl⟩
theorem d_Mo_wicks_20 : dz b_Mo_wicks 20 (.iload_n 2) 1 21 := ⟨by decide +kernel, rfl⟩
theorem d_Mo_wicks_21 : dz b_Mo_wicks 21 (.iload_n 3) 1 22 := ⟨by decide +kernel, rfl⟩
theorem d_Mo_wicks_22 : dz b_Mo_wicks 22 (.invokevirtual 191) 3 25 := ⟨by decide +kernel, rfl⟩
theorem d_Mo_wicks_25 : dz b_Mo_wicks 25 (.aload_n 0) 1 26 := ⟨by decide +kernel, rfl⟩
theorem d_Mo_wicks_26 : dz b_Mo_wicks 26 (.getfield 188) 3 29 := ⟨by decide +kernel, rfl⟩
theorem d_Mo_wicks_29 : dz b_Mo_wicks 29 (.ireturn) 1 30 := ⟨by decide +kernel, rfl⟩
theorem d_Mo_isMonth_0 : dz b_Mo_isMonth 0 (.iload_n 0) 1 1 := ⟨by decide +kernel, rfl⟩
theorem d_Mo_isMonth_1 : dj b_Mo_isMonth 1 (.ifCond .lt) 4 14 := ⟨13, by decide +kernel, rfl, by decide⟩
theorem d_Mo_isMonth_4 : dz b_Mo_isMonth 4 (.iload_n 0) 1 5 := ⟨by decide +kernel, rfl⟩
theorem d_Mo_isMonth_5 : dz b_Mo_isMonth 5 (.bipush 120) 2 7 := ⟨by decide +kernel, rfl⟩
theorem d_Mo_isMonth_7 : dj b_Mo_isMonth 7 (.if_icmp .ge) 10 14 := ⟨7, by decide +kernel, rfl, by decide⟩
theorem d_Mo_isMonth_10 : dz b_Mo_isMonth 10 (.iconst 1) 1 11 := ⟨by decide +kernel, rfl⟩
theorem d_Mo_isMonth_11 : dj b_Mo_isMonth 11 (.goto) 14 15 := ⟨4, by decide +kernel, rfl, by decide⟩
theorem d_Mo_isMonth_14 : dz b_Mo_isMonth 14 (.iconst 0) 1 15 := ⟨by decide +kernel, rfl⟩
theorem d_Mo_isMonth_15 : dz b_Mo_isMonth 15 (.ireturn) 1 16 := ⟨by decide +kernel, rfl⟩
theorem d_Mo_span_0 : dz b_Mo_span 0 (.aload_n 0) 1 1 := ⟨by decide +kernel, rfl⟩
theorem d_Mo_span_1 : dz b_Mo_span 1 (.iload_n 1) 1 2 := ⟨by decide +kernel, rfl⟩
theorem d_Mo_span_2 : dz b_Mo_span 2 (.invokevirtual 59) 3 5 := ⟨by decide +kernel, rfl⟩
theorem d_Mo_span_5 : dj b_Mo_span 5 (.ifCond .eq) 8 15 := ⟨10, by decide +kernel, rfl, by decide⟩
theorem d_Mo_span_8 : dz b_Mo_span 8 (.iload_n 2) 1 9 := ⟨by decide +kernel, rfl⟩
theorem d_Mo_span_9 : dz b_Mo_span 9 (.invokestatic 202) 3 12 := ⟨by decide +kernel, rfl⟩
theorem d_Mo_span_12 : dj b_Mo_span 12 (.ifCond .ne) 15 17 := ⟨5, by decide +kernel, rfl, by decide⟩
theorem d_Mo_span_15 : dz b_Mo_span 15 (.iconst (-1)) 1 16 := ⟨by decide +kernel, rfl⟩
theorem d_Mo_span_16 : dz b_Mo_span 16 (.ireturn) 1 17 := ⟨by decide +kernel, rfl⟩
theorem d_Mo_span_17 : dz b_Mo_span 17 (.iconst 0) 1 18 := ⟨by decide +kernel, rfl⟩
theorem d_Mo_span_18 : dz b_Mo_span 18 (.istore 5) 2 20 := ⟨by decide +kernel, rfl⟩
theorem d_Mo_span_20 : dz b_Mo_span 20 (.bipush 30) 2 22 := ⟨by decide +kernel, rfl⟩
theorem d_Mo_span_22 : dz b_Mo_span 22 (.iload_n 2) 1 23 := ⟨by decide +kernel, rfl⟩
theorem d_Mo_span_23 : dz b_Mo_span 23 (.imul) 1 24 := ⟨by decide +kernel, rfl⟩
theorem d_Mo_span_24 : dz b_Mo_span 24 (.istore 6) 2 26 := ⟨by decide +kernel, rfl⟩
theorem d_Mo_span_26 : dz b_Mo_span 26 (.iload 6) 2 28 := ⟨by decide +kernel, rfl⟩
theorem d_Mo_span_28 : dz b_Mo_span 28 (.bipush 30) 2 30 := ⟨by decide +kernel, rfl⟩
theorem d_Mo_span_30 : dz b_Mo_span 30 (.iload_n 2) 1 31 := ⟨by decide +kernel, rfl⟩
theorem d_Mo_span_31 : dz b_Mo_span 31 (.imul) 1 32 := ⟨by decide +kernel, rfl⟩
theorem d_Mo_span_32 : dz b_Mo_span 32 (.bipush 30) 2 34 := ⟨by decide +kernel, rfl⟩
theorem d_Mo_span_34 : dz b_Mo_span 34 (.iadd) 1 35 := ⟨by decide +kernel, rfl⟩
theorem d_Mo_span_35 : dj b_Mo_span 35 (.if_icmp .ge) 38 87 := ⟨52, by decide +kernel, rfl, by decide⟩
theorem d_Mo_span_38 : dz b_Mo_span 38 (.aload_n 0) 1 39 := ⟨by decide +kernel, rfl⟩
theorem d_Mo_span_39 : dz b_Mo_span 39 (.iload_n 1) 1 40 := ⟨by decide +kernel, rfl⟩
theorem d_Mo_span_40 : dz b_Mo_span 40 (.iload 6) 2 42 := ⟨by decide +kernel, rfl⟩
theorem d_Mo_span_42 : dz b_Mo_span 42 (.iload_n 3) 1 43 := ⟨by decide +kernel, rfl⟩
theorem d_Mo_span_43 : dz b_Mo_span 43 (.invokevirtual 198) 3 46 := ⟨by decide +kernel, rfl⟩
theorem d_Mo_span_46 : dz b_Mo_span 46 (.istore 7) 2 48 := ⟨by decide +kernel, rfl⟩
theorem d_Mo_span_48 : dz b_Mo_span 48 (.iload 5) 2 50 := ⟨by decide +kernel, rfl⟩
theorem d_Mo_span_50 : dz b_Mo_span 50 (.iload 7) 2 52 := ⟨by decide +kernel, rfl⟩
theorem d_Mo_span_52 : dz b_Mo_span 52 (.iconst 1) 1 53 := ⟨by decide +kernel, rfl⟩
theorem d_Mo_span_53 : dj b_Mo_span 53 (.if_icmp .eq) 56 73 := ⟨20, by decide +kernel, rfl, by decide⟩
theorem d_Mo_span_56 : dz b_Mo_span 56 (.iload 4) 2 58 := ⟨by decide +kernel, rfl⟩
theorem d_Mo_span_58 : dj b_Mo_span 58 (.ifCond .eq) 61 77 := ⟨19, by decide +kernel, rfl, by decide⟩
theorem d_Mo_span_61 : dz b_Mo_span 61 (.iload 7) 2 63 := ⟨by decide +kernel, rfl⟩
theorem d_Mo_span_63 : dj b_Mo_span 63 (.ifCond .eq) 66 73 := ⟨10, by decide +kernel, rfl, by decide⟩
theorem d_Mo_span_66 : dz b_Mo_span 66 (.iload 7) 2 68 := ⟨by decide +kernel, rfl⟩
theorem d_Mo_span_68 : dz b_Mo_span 68 (.bipush 7) 2 70 := ⟨by decide +kernel, rfl⟩
theorem d_Mo_span_70 : dj b_Mo_span 70 (.if_icmp .ne) 73 77 := ⟨7, by decide +kernel, rfl, by decide⟩
theorem d_Mo_span_73 : dz b_Mo_span 73 (.iconst 1) 1 74 := ⟨by decide +kernel, rfl⟩
theorem d_Mo_span_74 : dj b_Mo_span 74 (.goto) 77 78 := ⟨4, by decide +kernel, rfl, by decide⟩
theorem d_Mo_span_77 : dz b_Mo_span 77 (.iconst 0) 1 78 := ⟨by decide +kernel, rfl⟩
theorem d_Mo_span_78 : dz b_Mo_span 78 (.iadd) 1 79 := ⟨by decide +kernel, rfl⟩
theorem d_Mo_span_79 : dz b_Mo_span 79 (.istore 5) 2 81 := ⟨by decide +kernel, rfl⟩
theorem d_Mo_span_81 : dz b_Mo_span 81 (.iinc 6 1) 3 84 := ⟨by decide +kernel, rfl⟩
theorem d_Mo_span_84 : dj b_Mo_span 84 (.goto) 87 26 := ⟨(-58), by decide +kernel, rfl, by decide⟩
theorem d_Mo_span_87 : dz b_Mo_span 87 (.iload 5) 2 89 := ⟨by decide +kernel, rfl⟩
theorem d_Mo_span_89 : dz b_Mo_span 89 (.ireturn) 1 90 := ⟨by decide +kernel, rfl⟩
theorem d_Mo_missed_0 : dz b_Mo_missed 0 (.aload_n 0) 1 1 := ⟨by decide +kernel, rfl⟩
theorem d_Mo_missed_1 : dz b_Mo_missed 1 (.iload_n 1) 1 2 := ⟨by decide +kernel, rfl⟩
theorem d_Mo_missed_2 : dz b_Mo_missed 2 (.invokevirtual 59) 3 5 := ⟨by decide +kernel, rfl⟩
theorem d_Mo_missed_5 : dj b_Mo_missed 5 (.ifCond .eq) 8 26 := ⟨21, by decide +kernel, rfl, by decide⟩
theorem d_Mo_missed_8 : dz b_Mo_missed 8 (.iload_n 2) 1 9 := ⟨by decide +kernel, rfl⟩
theorem d_Mo_missed_9 : dz b_Mo_missed 9 (.invokestatic 202) 3 12 := ⟨by decide +kernel, rfl⟩
theorem d_Mo_missed_12 : dj b_Mo_missed 12 (.ifCond .eq) 15 26 := ⟨14, by decide +kernel, rfl, by decide⟩
theorem d_Mo_missed_15 : dz b_Mo_missed 15 (.iload_n 3) 1 16 := ⟨by decide +kernel, rfl⟩
theorem d_Mo_missed_16 : dz b_Mo_missed 16 (.iconst 2) 1 17 := ⟨by decide +kernel, rfl⟩
theorem d_Mo_missed_17 : dj b_Mo_missed 17 (.if_icmp .lt) 20 26 := ⟨9, by decide +kernel, rfl, by decide⟩
theorem d_Mo_missed_20 : dz b_Mo_missed 20 (.iload_n 3) 1 21 := ⟨by decide +kernel, rfl⟩
theorem d_Mo_missed_21 : dz b_Mo_missed 21 (.bipush 6) 2 23 := ⟨by decide +kernel, rfl⟩
theorem d_Mo_missed_23 : dj b_Mo_missed 23 (.if_icmp .le) 26 28 := ⟨5, by decide +kernel, rfl, by decide⟩
theorem d_Mo_missed_26 : dz b_Mo_missed 26 (.iconst (-1)) 1 27 := ⟨by decide +kernel, rfl⟩
theorem d_Mo_missed_27 : dz b_Mo_missed 27 (.ireturn) 1 28 := ⟨by decide +kernel, rfl⟩
theorem d_Mo_missed_28 : dz b_Mo_missed 28 (.iconst 0) 1 29 := ⟨by decide +kernel, rfl⟩
theorem d_Mo_missed_29 : dz b_Mo_missed 29 (.istore 5) 2 31 := ⟨by decide +kernel, rfl⟩
theorem d_Mo_missed_31 : dz b_Mo_missed 31 (.bipush 30) 2 33 := ⟨by decide +kernel, rfl⟩
theorem d_Mo_missed_33 : dz b_Mo_missed 33 (.iload_n 2) 1 34 := ⟨by decide +kernel, rfl⟩
theorem d_Mo_missed_34 : dz b_Mo_missed 34 (.imul) 1 35 := ⟨by decide +kernel, rfl⟩
theorem d_Mo_missed_35 : dz b_Mo_missed 35 (.istore 6) 2 37 := ⟨by decide +kernel, rfl⟩
theorem d_Mo_missed_37 : dz b_Mo_missed 37 (.iload 6) 2 39 := ⟨by decide +kernel, rfl⟩
theorem d_Mo_missed_39 : dz b_Mo_missed 39 (.bipush 30) 2 41 := ⟨by decide +kernel, rfl⟩
theorem d_Mo_missed_41 : dz b_Mo_missed 41 (.iload_n 2) 1 42 := ⟨by decide +kernel, rfl⟩
theorem d_Mo_missed_42 : dz b_Mo_missed 42 (.imul) 1 43 := ⟨by decide +kernel, rfl⟩
theorem d_Mo_missed_43 : dz b_Mo_missed 43 (.bipush 30) 2 45 := ⟨by decide +kernel, rfl⟩
theorem d_Mo_missed_45 : dz b_Mo_missed 45 (.iadd) 1 46 := ⟨by decide +kernel, rfl⟩
theorem d_Mo_missed_46 : dj b_Mo_missed 46 (.if_icmp .ge) 49 78 := ⟨32, by decide +kernel, rfl, by decide⟩
theorem d_Mo_missed_49 : dz b_Mo_missed 49 (.iload 5) 2 51 := ⟨by decide +kernel, rfl⟩
theorem d_Mo_missed_51 : dz b_Mo_missed 51 (.aload_n 0) 1 52 := ⟨by decide +kernel, rfl⟩
theorem d_Mo_missed_52 : dz b_Mo_missed 52 (.iload_n 1) 1 53 := ⟨by decide +kernel, rfl⟩
theorem d_Mo_missed_53 : dz b_Mo_missed 53 (.iload 6) 2 55 := ⟨by decide +kernel, rfl⟩
theorem d_Mo_missed_55 : dz b_Mo_missed 55 (.iload 4) 2 57 := ⟨by decide +kernel, rfl⟩
theorem d_Mo_missed_57 : dz b_Mo_missed 57 (.invokevirtual 198) 3 60 := ⟨by decide +kernel, rfl⟩
theorem d_Mo_missed_60 : dz b_Mo_missed 60 (.iload_n 3) 1 61 := ⟨by decide +kernel, rfl⟩
theorem d_Mo_missed_61 : dj b_Mo_missed 61 (.if_icmp .ne) 64 68 := ⟨7, by decide +kernel, rfl, by decide⟩
theorem d_Mo_missed_64 : dz b_Mo_missed 64 (.iconst 1) 1 65 := ⟨by decide +kernel, rfl⟩
theorem d_Mo_missed_65 : dj b_Mo_missed 65 (.goto) 68 69 := ⟨4, by decide +kernel, rfl, by decide⟩
theorem d_Mo_missed_68 : dz b_Mo_missed 68 (.iconst 0) 1 69 := ⟨by decide +kernel, rfl⟩
theorem d_Mo_missed_69 : dz b_Mo_missed 69 (.iadd) 1 70 := ⟨by decide +kernel, rfl⟩
theorem d_Mo_missed_70 : dz b_Mo_missed 70 (.istore 5) 2 72 := ⟨by decide +kernel, rfl⟩
theorem d_Mo_missed_72 : dz b_Mo_missed 72 (.iinc 6 1) 3 75 := ⟨by decide +kernel, rfl⟩
theorem d_Mo_missed_75 : dj b_Mo_missed 75 (.goto) 78 37 := ⟨(-38), by decide +kernel, rfl, by decide⟩
theorem d_Mo_missed_78 : dz b_Mo_missed 78 (.iload 5) 2 80 := ⟨by decide +kernel, rfl⟩
theorem d_Mo_missed_80 : dz b_Mo_missed 80 (.ireturn) 1 81 := ⟨by decide +kernel, rfl⟩
theorem d_Mo_init_0 : dz b_Mo_init 0 (.aload_n 0) 1 1 := ⟨by decide +kernel, rfl⟩
theorem d_Mo_init_1 : dz b_Mo_init 1 (.invokespecial 205) 3 4 := ⟨by decide +kernel, rfl⟩
theorem d_Mo_init_4 : dz b_Mo_init 4 (.aload_n 0) 1 5 := ⟨by decide +kernel, rfl⟩
theorem d_Mo_init_5 : dz b_Mo_init 5 (.bipush 12) 2 7 := ⟨by decide +kernel, rfl⟩
theorem d_Mo_init_7 : dz b_Mo_init 7 (.newarray .long) 2 9 := ⟨by decide +kernel, rfl⟩
theorem d_Mo_init_9 : dz b_Mo_init 9 (.putfield 42) 3 12 := ⟨by decide +kernel, rfl⟩
theorem d_Mo_init_12 : dz b_Mo_init 12 (.aload_n 0) 1 13 := ⟨by decide +kernel, rfl⟩
theorem d_Mo_init_13 : dz b_Mo_init 13 (.bipush 12) 2 15 := ⟨by decide +kernel, rfl⟩
theorem d_Mo_init_15 : dz b_Mo_init 15 (.newarray .int) 2 17 := ⟨by decide +kernel, rfl⟩
theorem d_Mo_init_17 : dz b_Mo_init 17 (.putfield 52) 3 20 := ⟨by decide +kernel, rfl⟩
theorem d_Mo_init_20 : dz b_Mo_init 20 (.aload_n 0) 1 21 := ⟨by decide +kernel, rfl⟩
theorem d_Mo_init_21 : dz b_Mo_init 21 (.bipush 12) 2 23 := ⟨by decide +kernel, rfl⟩
theorem d_Mo_init_23 : dz b_Mo_init 23 (.newarray .int) 2 25 := ⟨by decide +kernel, rfl⟩
theorem d_Mo_init_25 : dz b_Mo_init 25 (.putfield 56) 3 28 := ⟨by decide +kernel, rfl⟩
theorem d_Mo_init_28 : dz b_Mo_init 28 (.aload_n 0) 1 29 := ⟨by decide +kernel, rfl⟩
theorem d_Mo_init_29 : dz b_Mo_init 29 (.sipush 320) 3 32 := ⟨by decide +kernel, rfl⟩
theorem d_Mo_init_32 : dz b_Mo_init 32 (.newarray .byte) 2 34 := ⟨by decide +kernel, rfl⟩
theorem d_Mo_init_34 : dz b_Mo_init 34 (.putfield 119) 3 37 := ⟨by decide +kernel, rfl⟩
theorem d_Mo_init_37 : dz b_Mo_init 37 (.aload_n 0) 1 38 := ⟨by decide +kernel, rfl⟩
theorem d_Mo_init_38 : dz b_Mo_init 38 (.sipush 300) 3 41 := ⟨by decide +kernel, rfl⟩
theorem d_Mo_init_41 : dz b_Mo_init 41 (.newarray .byte) 2 43 := ⟨by decide +kernel, rfl⟩
theorem d_Mo_init_43 : dz b_Mo_init 43 (.putfield 65) 3 46 := ⟨by decide +kernel, rfl⟩
theorem d_Mo_init_46 : dz b_Mo_init 46 (.aload_n 0) 1 47 := ⟨by decide +kernel, rfl⟩
theorem d_Mo_init_47 : dz b_Mo_init 47 (.iconst (-1)) 1 48 := ⟨by decide +kernel, rfl⟩
theorem d_Mo_init_48 : dz b_Mo_init 48 (.putfield 72) 3 51 := ⟨by decide +kernel, rfl⟩
theorem d_Mo_init_51 : dz b_Mo_init 51 (.aload_n 0) 1 52 := ⟨by decide +kernel, rfl⟩
theorem d_Mo_init_52 : dz b_Mo_init 52 (.bipush 41) 2 54 := ⟨by decide +kernel, rfl⟩
theorem d_Mo_init_54 : dz b_Mo_init 54 (.newarray .int) 2 56 := ⟨by decide +kernel, rfl⟩
theorem d_Mo_init_56 : dz b_Mo_init 56 (.putfield 122) 3 59 := ⟨by decide +kernel, rfl⟩
theorem d_Mo_init_59 : dz b_Mo_init 59 (.aload_n 0) 1 60 := ⟨by decide +kernel, rfl⟩
theorem d_Mo_init_60 : dz b_Mo_init 60 (.sipush 820) 3 63 := ⟨by decide +kernel, rfl⟩
theorem d_Mo_init_63 : dz b_Mo_init 63 (.newarray .int) 2 65 := ⟨by decide +kernel, rfl⟩
theorem d_Mo_init_65 : dz b_Mo_init 65 (.putfield 140) 3 68 := ⟨by decide +kernel, rfl⟩
theorem d_Mo_init_68 : dz b_Mo_init 68 (.aload_n 0) 1 69 := ⟨by decide +kernel, rfl⟩
theorem d_Mo_init_69 : dz b_Mo_init 69 (.sipush 820) 3 72 := ⟨by decide +kernel, rfl⟩
theorem d_Mo_init_72 : dz b_Mo_init 72 (.newarray .int) 2 74 := ⟨by decide +kernel, rfl⟩
theorem d_Mo_init_74 : dz b_Mo_init 74 (.putfield 147) 3 77 := ⟨by decide +kernel, rfl⟩
theorem d_Mo_init_77 : dz b_Mo_init 77 (.aload_n 0) 1 78 := ⟨by decide +kernel, rfl⟩
theorem d_Mo_init_78 : dz b_Mo_init 78 (.sipush 820) 3 81 := ⟨by decide +kernel, rfl⟩
theorem d_Mo_init_81 : dz b_Mo_init 81 (.newarray .int) 2 83 := ⟨by decide +kernel, rfl⟩
theorem d_Mo_init_83 : dz b_Mo_init 83 (.putfield 160) 3 86 := ⟨by decide +kernel, rfl⟩
theorem d_Mo_init_86 : dz b_Mo_init 86 (.aload_n 0) 1 87 := ⟨by decide +kernel, rfl⟩
theorem d_Mo_init_87 : dz b_Mo_init 87 (.sipush 9840) 3 90 := ⟨by decide +kernel, rfl⟩
theorem d_Mo_init_90 : dz b_Mo_init 90 (.newarray .int) 2 92 := ⟨by decide +kernel, rfl⟩
theorem d_Mo_init_92 : dz b_Mo_init 92 (.putfield 153) 3 95 := ⟨by decide +kernel, rfl⟩
theorem d_Mo_init_95 : dz b_Mo_init 95 (.aload_n 0) 1 96 := ⟨by decide +kernel, rfl⟩
theorem d_Mo_init_96 : dz b_Mo_init 96 (.bipush 41) 2 98 := ⟨by decide +kernel, rfl⟩
theorem d_Mo_init_98 : dz b_Mo_init 98 (.newarray .int) 2 100 := ⟨by decide +kernel, rfl⟩
theorem d_Mo_init_100 : dz b_Mo_init 100 (.putfield 128) 3 103 := ⟨by decide +kernel, rfl⟩
theorem d_Mo_init_103 : dz b_Mo_init 103 (.aload_n 0) 1 104 := ⟨by decide +kernel, rfl⟩
theorem d_Mo_init_104 : dz b_Mo_init 104 (.bipush 41) 2 106 := ⟨by decide +kernel, rfl⟩
theorem d_Mo_init_106 : dz b_Mo_init 106 (.newarray .int) 2 108 := ⟨by decide +kernel, rfl⟩
theorem d_Mo_init_108 : dz b_Mo_init 108 (.putfield 134) 3 111 := ⟨by decide +kernel, rfl⟩
theorem d_Mo_init_111 : dz b_Mo_init 111 (.aload_n 0) 1 112 := ⟨by decide +kernel, rfl⟩
theorem d_Mo_init_112 : dz b_Mo_init 112 (.sipush 820) 3 115 := ⟨by decide +kernel, rfl⟩
theorem d_Mo_init_115 : dz b_Mo_init 115 (.newarray .boolean) 2 117 := ⟨by decide +kernel, rfl⟩
theorem d_Mo_init_117 : dz b_Mo_init 117 (.putfield 156) 3 120 := ⟨by decide +kernel, rfl⟩
theorem d_Mo_init_120 : dz b_Mo_init 120 (.aload_n 0) 1 121 := ⟨by decide +kernel, rfl⟩
theorem d_Mo_init_121 : dz b_Mo_init 121 (.bipush 12) 2 123 := ⟨by decide +kernel, rfl⟩
theorem d_Mo_init_123 : dz b_Mo_init 123 (.newarray .int) 2 125 := ⟨by decide +kernel, rfl⟩
theorem d_Mo_init_125 : dz b_Mo_init 125 (.putfield 171) 3 128 := ⟨by decide +kernel, rfl⟩
theorem d_Mo_init_128 : dz b_Mo_init 128 (.aload_n 0) 1 129 := ⟨by decide +kernel, rfl⟩
theorem d_Mo_init_129 : dz b_Mo_init 129 (.iconst 4) 1 130 := ⟨by decide +kernel, rfl⟩
theorem d_Mo_init_130 : dz b_Mo_init 130 (.newarray .int) 2 132 := ⟨by decide +kernel, rfl⟩
theorem d_Mo_init_132 : dz b_Mo_init 132 (.putfield 210) 3 135 := ⟨by decide +kernel, rfl⟩
theorem d_Mo_init_135 : dz b_Mo_init 135 (.aload_n 0) 1 136 := ⟨by decide +kernel, rfl⟩
theorem d_Mo_init_136 : dz b_Mo_init 136 (.bipush 60) 2 138 := ⟨by decide +kernel, rfl⟩
theorem d_Mo_init_138 : dz b_Mo_init 138 (.newarray .int) 2 140 := ⟨by decide +kernel, rfl⟩
theorem d_Mo_init_140 : dz b_Mo_init 140 (.putfield 213) 3 143 := ⟨by decide +kernel, rfl⟩
theorem d_Mo_init_143 : dz b_Mo_init 143 (.aload_n 0) 1 144 := ⟨by decide +kernel, rfl⟩
theorem d_Mo_init_144 : dz b_Mo_init 144 (.bipush 60) 2 146 := ⟨by decide +kernel, rfl⟩
theorem d_Mo_init_146 : dz b_Mo_init 146 (.newarray .int) 2 148 := ⟨by decide +kernel, rfl⟩
theorem d_Mo_init_148 : dz b_Mo_init 148 (.putfield 216) 3 151 := ⟨by decide +kernel, rfl⟩
theorem d_Mo_init_151 : dz b_Mo_init 151 (.aload_n 0) 1 152 := ⟨by decide +kernel, rfl⟩
theorem d_Mo_init_152 : dz b_Mo_init 152 (.bipush 60) 2 154 := ⟨by decide +kernel, rfl⟩
theorem d_Mo_init_154 : dz b_Mo_init 154 (.newarray .int) 2 156 := ⟨by decide +kernel, rfl⟩
theorem d_Mo_init_156 : dz b_Mo_init 156 (.putfield 219) 3 159 := ⟨by decide +kernel, rfl⟩
theorem d_Mo_init_159 : dz b_Mo_init 159 (.aload_n 0) 1 160 := ⟨by decide +kernel, rfl⟩
theorem d_Mo_init_160 : dz b_Mo_init 160 (.bipush 50) 2 162 := ⟨by decide +kernel, rfl⟩
theorem d_Mo_init_162 : dz b_Mo_init 162 (.newarray .int) 2 164 := ⟨by decide +kernel, rfl⟩
theorem d_Mo_init_164 : dz b_Mo_init 164 (.putfield 222) 3 167 := ⟨by decide +kernel, rfl⟩
theorem d_Mo_init_167 : dz b_Mo_init 167 (.aload_n 0) 1 168 := ⟨by decide +kernel, rfl⟩
theorem d_Mo_init_168 : dz b_Mo_init 168 (.bipush 60) 2 170 := ⟨by decide +kernel, rfl⟩
theorem d_Mo_init_170 : dz b_Mo_init 170 (.newarray .int) 2 172 := ⟨by decide +kernel, rfl⟩
theorem d_Mo_init_172 : dz b_Mo_init 172 (.putfield 225) 3 175 := ⟨by decide +kernel, rfl⟩
theorem d_Mo_init_175 : dz b_Mo_init 175 (.aload_n 0) 1 176 := ⟨by decide +kernel, rfl⟩
theorem d_Mo_init_176 : dz b_Mo_init 176 (.bipush 60) 2 178 := ⟨by decide +kernel, rfl⟩
theorem d_Mo_init_178 : dz b_Mo_init 178 (.newarray .int) 2 180 := ⟨by decide +kernel, rfl⟩
theorem d_Mo_init_180 : dz b_Mo_init 180 (.putfield 228) 3 183 := ⟨by decide +kernel, rfl⟩
theorem d_Mo_init_183 : dz b_Mo_init 183 (.aload_n 0) 1 184 := ⟨by decide +kernel, rfl⟩
theorem d_Mo_init_184 : dz b_Mo_init 184 (.bipush 60) 2 186 := ⟨by decide +kernel, rfl⟩
theorem d_Mo_init_186 : dz b_Mo_init 186 (.newarray .int) 2 188 := ⟨by decide +kernel, rfl⟩
theorem d_Mo_init_188 : dz b_Mo_init 188 (.putfield 231) 3 191 := ⟨by decide +kernel, rfl⟩
theorem d_Mo_init_191 : dz b_Mo_init 191 (.aload_n 0) 1 192 := ⟨by decide +kernel, rfl⟩
theorem d_Mo_init_192 : dz b_Mo_init 192 (.bipush 60) 2 194 := ⟨by decide +kernel, rfl⟩
theorem d_Mo_init_194 : dz b_Mo_init 194 (.newarray .int) 2 196 := ⟨by decide +kernel, rfl⟩
theorem d_Mo_init_196 : dz b_Mo_init 196 (.putfield 234) 3 199 := ⟨by decide +kernel, rfl⟩
theorem d_Mo_init_199 : dz b_Mo_init 199 (.aload_n 0) 1 200 := ⟨by decide +kernel, rfl⟩
theorem d_Mo_init_200 : dz b_Mo_init 200 (.bipush 60) 2 202 := ⟨by decide +kernel, rfl⟩
theorem d_Mo_init_202 : dz b_Mo_init 202 (.newarray .int) 2 204 := ⟨by decide +kernel, rfl⟩
theorem d_Mo_init_204 : dz b_Mo_init 204 (.putfield 237) 3 207 := ⟨by decide +kernel, rfl⟩
theorem d_Mo_init_207 : dz b_Mo_init 207 (.aload_n 0) 1 208 := ⟨by decide +kernel, rfl⟩
theorem d_Mo_init_208 : dz b_Mo_init 208 (.bipush 60) 2 210 := ⟨by decide +kernel, rfl⟩
theorem d_Mo_init_210 : dz b_Mo_init 210 (.newarray .int) 2 212 := ⟨by decide +kernel, rfl⟩
theorem d_Mo_init_212 : dz b_Mo_init 212 (.putfield 240) 3 215 := ⟨by decide +kernel, rfl⟩
theorem d_Mo_init_215 : dz b_Mo_init 215 (.aload_n 0) 1 216 := ⟨by decide +kernel, rfl⟩
theorem d_Mo_init_216 : dz b_Mo_init 216 (.sipush 4096) 3 219 := ⟨by decide +kernel, rfl⟩
theorem d_Mo_init_219 : dz b_Mo_init 219 (.newarray .int) 2 221 := ⟨by decide +kernel, rfl⟩
theorem d_Mo_init_221 : dz b_Mo_init 221 (.putfield 243) 3 224 := ⟨by decide +kernel, rfl⟩
theorem d_Mo_init_224 : dz b_Mo_init 224 (.aload_n 0) 1 225 := ⟨by decide +kernel, rfl⟩
theorem d_Mo_init_225 : dz b_Mo_init 225 (.sipush 4096) 3 228 := ⟨by decide +kernel, rfl⟩
theorem d_Mo_init_228 : dz b_Mo_init 228 (.newarray .int) 2 230 := ⟨by decide +kernel, rfl⟩
theorem d_Mo_init_230 : dz b_Mo_init 230 (.putfield 246) 3 233 := ⟨by decide +kernel, rfl⟩
theorem d_Mo_init_233 : dz b_Mo_init 233 (.iconst 0) 1 234 := ⟨by decide +kernel, rfl⟩
theorem d_Mo_init_234 : dz b_Mo_init 234 (.istore_n 1) 1 235 := ⟨by decide +kernel, rfl⟩
theorem d_Mo_init_235 : dz b_Mo_init 235 (.iload_n 1) 1 236 := ⟨by decide +kernel, rfl⟩
theorem d_Mo_init_236 : dz b_Mo_init 236 (.iconst 4) 1 237 := ⟨by decide +kernel, rfl⟩
theorem d_Mo_init_237 : dj b_Mo_init 237 (.if_icmp .ge) 240 255 := ⟨18, by decide +kernel, rfl, by decide⟩
theorem d_Mo_init_240 : dz b_Mo_init 240 (.aload_n 0) 1 241 := ⟨by decide +kernel, rfl⟩
theorem d_Mo_init_241 : dz b_Mo_init 241 (.getfield 210) 3 244 := ⟨by decide +kernel, rfl⟩
theorem d_Mo_init_244 : dz b_Mo_init 244 (.iload_n 1) 1 245 := ⟨by decide +kernel, rfl⟩
theorem d_Mo_init_245 : dz b_Mo_init 245 (.iconst 4) 1 246 := ⟨by decide +kernel, rfl⟩
theorem d_Mo_init_246 : dz b_Mo_init 246 (.iload_n 1) 1 247 := ⟨by decide +kernel, rfl⟩
theorem d_Mo_init_247 : dz b_Mo_init 247 (.iadd) 1 248 := ⟨by decide +kernel, rfl⟩
theorem d_Mo_init_248 : dz b_Mo_init 248 (.iastore) 1 249 := ⟨by decide +kernel, rfl⟩
theorem d_Mo_init_249 : dz b_Mo_init 249 (.iinc 1 1) 3 252 := ⟨by decide +kernel, rfl⟩
theorem d_Mo_init_252 : dj b_Mo_init 252 (.goto) 255 235 := ⟨(-17), by decide +kernel, rfl, by decide⟩
theorem d_Mo_init_255 : dz b_Mo_init 255 (.iconst 0) 1 256 := ⟨by decide +kernel, rfl⟩
theorem d_Mo_init_256 : dz b_Mo_init 256 (.istore_n 1) 1 257 := ⟨by decide +kernel, rfl⟩
theorem d_Mo_init_257 : dz b_Mo_init 257 (.iload_n 1) 1 258 := ⟨by decide +kernel, rfl⟩
theorem d_Mo_init_258 : dz b_Mo_init 258 (.bipush 50) 2 260 := ⟨by decide +kernel, rfl⟩
theorem d_Mo_init_260 : dj b_Mo_init 260 (.if_icmp .ge) 263 276 := ⟨16, by decide +kernel, rfl, by decide⟩
theorem d_Mo_init_263 : dz b_Mo_init 263 (.aload_n 0) 1 264 := ⟨by decide +kernel, rfl⟩
theorem d_Mo_init_264 : dz b_Mo_init 264 (.getfield 222) 3 267 := ⟨by decide +kernel, rfl⟩
theorem d_Mo_init_267 : dz b_Mo_init 267 (.iload_n 1) 1 268 := ⟨by decide +kernel, rfl⟩
theorem d_Mo_init_268 : dz b_Mo_init 268 (.iconst 1) 1 269 := ⟨by decide +kernel, rfl⟩
theorem d_Mo_init_269 : dz b_Mo_init 269 (.iastore) 1 270 := ⟨by decide +kernel, rfl⟩
theorem d_Mo_init_270 : dz b_Mo_init 270 (.iinc 1 1) 3 273 := ⟨by decide +kernel, rfl⟩
theorem d_Mo_init_273 : dj b_Mo_init 273 (.goto) 276 257 := ⟨(-16), by decide +kernel, rfl, by decide⟩
theorem d_Mo_init_276 : dz b_Mo_init 276 (.return_) 1 277 := ⟨by decide +kernel, rfl⟩
theorem d_Mo_ration_0 : dz b_Mo_ration 0 (.iload_n 1) 1 1 := ⟨by decide +kernel, rfl⟩
theorem d_Mo_ration_1 : dj b_Mo_ration 1 (.ifCond .lt) 4 19 := ⟨18, by decide +kernel, rfl, by decide⟩
theorem d_Mo_ration_4 : dz b_Mo_ration 4 (.iload_n 1) 1 5 := ⟨by decide +kernel, rfl⟩
theorem d_Mo_ration_5 : dz b_Mo_ration 5 (.iconst 4) 1 6 := ⟨by decide +kernel, rfl⟩
theorem d_Mo_ration_6 : dj b_Mo_ration 6 (.if_icmp .ge) 9 19 := ⟨13, by decide +kernel, rfl, by decide⟩
theorem d_Mo_ration_9 : dz b_Mo_ration 9 (.iload_n 2) 1 10 := ⟨by decide +kernel, rfl⟩
theorem d_Mo_ration_10 : dj b_Mo_ration 10 (.ifCond .lt) 13 19 := ⟨9, by decide +kernel, rfl, by decide⟩
theorem d_Mo_ration_13 : dz b_Mo_ration 13 (.iload_n 2) 1 14 := ⟨by decide +kernel, rfl⟩
theorem d_Mo_ration_14 : dz b_Mo_ration 14 (.bipush 100) 2 16 := ⟨by decide +kernel, rfl⟩
theorem d_Mo_ration_16 : dj b_Mo_ration 16 (.if_icmp .le) 19 21 := ⟨5, by decide +kernel, rfl, by decide⟩
theorem d_Mo_ration_19 : dz b_Mo_ration 19 (.iconst 0) 1 20 := ⟨by decide +kernel, rfl⟩
theorem d_Mo_ration_20 : dz b_Mo_ration 20 (.ireturn) 1 21 := ⟨by decide +kernel, rfl⟩
theorem d_Mo_ration_21 : dz b_Mo_ration 21 (.aload_n 0) 1 22 := ⟨by decide +kernel, rfl⟩
theorem d_Mo_ration_22 : dz b_Mo_ration 22 (.getfield 210) 3 25 := ⟨by decide +kernel, rfl⟩
theorem d_Mo_ration_25 : dz b_Mo_ration 25 (.iload_n 1) 1 26 := ⟨by decide +kernel, rfl⟩
theorem d_Mo_ration_26 : dz b_Mo_ration 26 (.iload_n 2) 1 27 := ⟨by decide +kernel, rfl⟩
theorem d_Mo_ration_27 : dz b_Mo_ration 27 (.iastore) 1 28 := ⟨by decide +kernel, rfl⟩
theorem d_Mo_ration_28 : dz b_Mo_ration 28 (.iconst 1) 1 29 := ⟨by decide +kernel, rfl⟩
theorem d_Mo_ration_29 : dz b_Mo_ration 29 (.ireturn) 1 30 := ⟨by decide +kernel, rfl⟩
theorem d_Mo_come_0 : dz b_Mo_come 0 (.aload_n 0) 1 1 := ⟨by decide +kernel, rfl⟩
theorem d_Mo_come_1 : dz b_Mo_come 1 (.iload_n 1) 1 2 := ⟨by decide +kernel, rfl⟩
theorem d_Mo_come_2 : dz b_Mo_come 2 (.invokevirtual 59) 3 5 := ⟨by decide +kernel, rfl⟩
theorem d_Mo_come_5 : dj b_Mo_come 5 (.ifCond .eq) 8 36 := ⟨31, by decide +kernel, rfl, by decide⟩
theorem d_Mo_come_8 : dz b_Mo_come 8 (.iload_n 2) 1 9 := ⟨by decide +kernel, rfl⟩
theorem d_Mo_come_9 : dz b_Mo_come 9 (.invokestatic 195) 3 12 := ⟨by decide +kernel, rfl⟩
theorem d_Mo_come_12 : dj b_Mo_come 12 (.ifCond .eq) 15 36 := ⟨24, by decide +kernel, rfl, by decide⟩
theorem d_Mo_come_15 : dz b_Mo_come 15 (.iload_n 3) 1 16 := ⟨by decide +kernel, rfl⟩
theorem d_Mo_come_16 : dz b_Mo_come 16 (.iconst 1) 1 17 := ⟨by decide +kernel, rfl⟩
theorem d_Mo_come_17 : dj b_Mo_come 17 (.if_icmp .lt) 20 36 := ⟨19, by decide +kernel, rfl, by decide⟩
theorem d_Mo_come_20 : dz b_Mo_come 20 (.iload_n 3) 1 21 := ⟨by decide +kernel, rfl⟩
theorem d_Mo_come_21 : dz b_Mo_come 21 (.sipush 1000) 3 24 := ⟨by decide +kernel, rfl⟩
theorem d_Mo_come_24 : dj b_Mo_come 24 (.if_icmp .gt) 27 36 := ⟨12, by decide +kernel, rfl, by decide⟩
theorem d_Mo_come_27 : dz b_Mo_come 27 (.aload_n 0) 1 28 := ⟨by decide +kernel, rfl⟩
theorem d_Mo_come_28 : dz b_Mo_come 28 (.getfield 249) 3 31 := ⟨by decide +kernel, rfl⟩
theorem d_Mo_come_31 : dz b_Mo_come 31 (.bipush 60) 2 33 := ⟨by decide +kernel, rfl⟩
theorem d_Mo_come_33 : dj b_Mo_come 33 (.if_icmp .ne) 36 38 := ⟨5, by decide +kernel, rfl, by decide⟩
theorem d_Mo_come_36 : dz b_Mo_come 36 (.iconst (-1)) 1 37 := ⟨by decide +kernel, rfl⟩
theorem d_Mo_come_37 : dz b_Mo_come 37 (.ireturn) 1 38 := ⟨by decide +kernel, rfl⟩
theorem d_Mo_come_38 : dz b_Mo_come 38 (.aload_n 0) 1 39 := ⟨by decide +kernel, rfl⟩
theorem d_Mo_come_39 : dz b_Mo_come 39 (.getfield 213) 3 42 := ⟨by decide +kernel, rfl⟩
theorem d_Mo_come_42 : dz b_Mo_come 42 (.aload_n 0) 1 43 := ⟨by decide +kernel, rfl⟩
theorem d_Mo_come_43 : dz b_Mo_come 43 (.getfield 249) 3 46 := ⟨by decide +kernel, rfl⟩
theorem d_Mo_come_46 : dz b_Mo_come 46 (.iload_n 1) 1 47 := ⟨by decide +kernel, rfl⟩
theorem d_Mo_come_47 : dz b_Mo_come 47 (.iastore) 1 48 := ⟨by decide +kernel, rfl⟩
theorem d_Mo_come_48 : dz b_Mo_come 48 (.aload_n 0) 1 49 := ⟨by decide +kernel, rfl⟩
theorem d_Mo_come_49 : dz b_Mo_come 49 (.getfield 216) 3 52 := ⟨by decide +kernel, rfl⟩
theorem d_Mo_come_52 : dz b_Mo_come 52 (.aload_n 0) 1 53 := ⟨by decide +kernel, rfl⟩
theorem d_Mo_come_53 : dz b_Mo_come 53 (.getfield 249) 3 56 := ⟨by decide +kernel, rfl⟩
theorem d_Mo_come_56 : dz b_Mo_come 56 (.iload_n 2) 1 57 := ⟨by decide +kernel, rfl⟩
theorem d_Mo_come_57 : dz b_Mo_come 57 (.iastore) 1 58 := ⟨by decide +kernel, rfl⟩
theorem d_Mo_come_58 : dz b_Mo_come 58 (.aload_n 0) 1 59 := ⟨by decide +kernel, rfl⟩
theorem d_Mo_come_59 : dz b_Mo_come 59 (.getfield 219) 3 62 := ⟨by decide +kernel, rfl⟩
theorem d_Mo_come_62 : dz b_Mo_come 62 (.aload_n 0) 1 63 := ⟨by decide +kernel, rfl⟩
theorem d_Mo_come_63 : dz b_Mo_come 63 (.getfield 249) 3 66 := ⟨by decide +kernel, rfl⟩
theorem d_Mo_come_66 : dz b_Mo_come 66 (.iload_n 3) 1 67 := ⟨by decide +kernel, rfl⟩
theorem d_Mo_come_67 : dz b_Mo_come 67 (.iastore) 1 68 := ⟨by decide +kernel, rfl⟩
theorem d_Mo_come_68 : dz b_Mo_come 68 (.aload_n 0) 1 69 := ⟨by decide +kernel, rfl⟩
theorem d_Mo_come_69 : dz b_Mo_come 69 (.dup) 1 70 := ⟨by decide +kernel, rfl⟩
theorem d_Mo_come_70 : dz b_Mo_come 70 (.getfield 249) 3 73 := ⟨by decide +kernel, rfl⟩
theorem d_Mo_come_73 : dz b_Mo_come 73 (.iconst 1) 1 74 := ⟨by decide +kernel, rfl⟩
theorem d_Mo_come_74 : dz b_Mo_come 74 (.iadd) 1 75 := ⟨by decide +kernel, rfl⟩
theorem d_Mo_come_75 : dz b_Mo_come 75 (.putfield 249) 3 78 := ⟨by decide +kernel, rfl⟩
theorem d_Mo_come_78 : dz b_Mo_come 78 (.aload_n 0) 1 79 := ⟨by decide +kernel, rfl⟩
end
section
theorem d_Mo_come_79 : dz b_Mo_come 79 (.getfield 249) 3 82 := ⟨by decide +kernel, rfl⟩
theorem d_Mo_come_82 : dz b_Mo_come 82 (.ireturn) 1 83 := ⟨by decide +kernel, rfl⟩
theorem d_Mo_arrears_0 : dz b_Mo_arrears 0 (.aload_n 0) 1 1 := ⟨by decide +kernel, rfl⟩
theorem d_Mo_arrears_1 : dz b_Mo_arrears 1 (.iload_n 1) 1 2 := ⟨by decide +kernel, rfl⟩
theorem d_Mo_arrears_2 : dz b_Mo_arrears 2 (.invokevirtual 59) 3 5 := ⟨by decide +kernel, rfl⟩
theorem d_Mo_arrears_5 : dj b_Mo_arrears 5 (.ifCond .eq) 8 15 := ⟨10, by decide +kernel, rfl, by decide⟩
theorem d_Mo_arrears_8 : dz b_Mo_arrears 8 (.iload_n 2) 1 9 := ⟨by decide +kernel, rfl⟩
theorem d_Mo_arrears_9 : dz b_Mo_arrears 9 (.invokestatic 195) 3 12 := ⟨by decide +kernel, rfl⟩
theorem d_Mo_arrears_12 : dj b_Mo_arrears 12 (.ifCond .ne) 15 18 := ⟨6, by decide +kernel, rfl, by decide⟩
theorem d_Mo_arrears_15 : dz b_Mo_arrears 15 (.ldc 252) 2 17 := ⟨by decide +kernel, rfl⟩
theorem d_Mo_arrears_17 : dz b_Mo_arrears 17 (.ireturn) 1 18 := ⟨by decide +kernel, rfl⟩
theorem d_Mo_arrears_18 : dz b_Mo_arrears 18 (.iload_n 2) 1 19 := ⟨by decide +kernel, rfl⟩
theorem d_Mo_arrears_19 : dz b_Mo_arrears 19 (.iconst 1) 1 20 := ⟨by decide +kernel, rfl⟩
theorem d_Mo_arrears_20 : dz b_Mo_arrears 20 (.iadd) 1 21 := ⟨by decide +kernel, rfl⟩
theorem d_Mo_arrears_21 : dz b_Mo_arrears 21 (.bipush 30) 2 23 := ⟨by decide +kernel, rfl⟩
theorem d_Mo_arrears_23 : dz b_Mo_arrears 23 (.idiv) 1 24 := ⟨by decide +kernel, rfl⟩
theorem d_Mo_arrears_24 : dz b_Mo_arrears 24 (.aload_n 0) 1 25 := ⟨by decide +kernel, rfl⟩
theorem d_Mo_arrears_25 : dz b_Mo_arrears 25 (.getfield 210) 3 28 := ⟨by decide +kernel, rfl⟩
theorem d_Mo_arrears_28 : dz b_Mo_arrears 28 (.aload_n 0) 1 29 := ⟨by decide +kernel, rfl⟩
theorem d_Mo_arrears_29 : dz b_Mo_arrears 29 (.getfield 56) 3 32 := ⟨by decide +kernel, rfl⟩
theorem d_Mo_arrears_32 : dz b_Mo_arrears 32 (.iload_n 1) 1 33 := ⟨by decide +kernel, rfl⟩
theorem d_Mo_arrears_33 : dz b_Mo_arrears 33 (.iaload) 1 34 := ⟨by decide +kernel, rfl⟩
theorem d_Mo_arrears_34 : dz b_Mo_arrears 34 (.iaload) 1 35 := ⟨by decide +kernel, rfl⟩
theorem d_Mo_arrears_35 : dz b_Mo_arrears 35 (.imul) 1 36 := ⟨by decide +kernel, rfl⟩
theorem d_Mo_arrears_36 : dz b_Mo_arrears 36 (.istore_n 3) 1 37 := ⟨by decide +kernel, rfl⟩
theorem d_Mo_arrears_37 : dz b_Mo_arrears 37 (.iconst 0) 1 38 := ⟨by decide +kernel, rfl⟩
theorem d_Mo_arrears_38 : dz b_Mo_arrears 38 (.istore 4) 2 40 := ⟨by decide +kernel, rfl⟩
theorem d_Mo_arrears_40 : dz b_Mo_arrears 40 (.iload 4) 2 42 := ⟨by decide +kernel, rfl⟩
theorem d_Mo_arrears_42 : dz b_Mo_arrears 42 (.aload_n 0) 1 43 := ⟨by decide +kernel, rfl⟩
theorem d_Mo_arrears_43 : dz b_Mo_arrears 43 (.getfield 249) 3 46 := ⟨by decide +kernel, rfl⟩
theorem d_Mo_arrears_46 : dj b_Mo_arrears 46 (.if_icmp .ge) 49 91 := ⟨45, by decide +kernel, rfl, by decide⟩
theorem d_Mo_arrears_49 : dz b_Mo_arrears 49 (.iload_n 3) 1 50 := ⟨by decide +kernel, rfl⟩
theorem d_Mo_arrears_50 : dz b_Mo_arrears 50 (.aload_n 0) 1 51 := ⟨by decide +kernel, rfl⟩
theorem d_Mo_arrears_51 : dz b_Mo_arrears 51 (.getfield 213) 3 54 := ⟨by decide +kernel, rfl⟩
theorem d_Mo_arrears_54 : dz b_Mo_arrears 54 (.iload 4) 2 56 := ⟨by decide +kernel, rfl⟩
theorem d_Mo_arrears_56 : dz b_Mo_arrears 56 (.iaload) 1 57 := ⟨by decide +kernel, rfl⟩
theorem d_Mo_arrears_57 : dz b_Mo_arrears 57 (.iload_n 1) 1 58 := ⟨by decide +kernel, rfl⟩
theorem d_Mo_arrears_58 : dj b_Mo_arrears 58 (.if_icmp .ne) 61 82 := ⟨24, by decide +kernel, rfl, by decide⟩
theorem d_Mo_arrears_61 : dz b_Mo_arrears 61 (.aload_n 0) 1 62 := ⟨by decide +kernel, rfl⟩
theorem d_Mo_arrears_62 : dz b_Mo_arrears 62 (.getfield 216) 3 65 := ⟨by decide +kernel, rfl⟩
theorem d_Mo_arrears_65 : dz b_Mo_arrears 65 (.iload 4) 2 67 := ⟨by decide +kernel, rfl⟩
theorem d_Mo_arrears_67 : dz b_Mo_arrears 67 (.iaload) 1 68 := ⟨by decide +kernel, rfl⟩
theorem d_Mo_arrears_68 : dz b_Mo_arrears 68 (.iload_n 2) 1 69 := ⟨by decide +kernel, rfl⟩
theorem d_Mo_arrears_69 : dj b_Mo_arrears 69 (.if_icmp .gt) 72 82 := ⟨13, by decide +kernel, rfl, by decide⟩
theorem d_Mo_arrears_72 : dz b_Mo_arrears 72 (.aload_n 0) 1 73 := ⟨by decide +kernel, rfl⟩
theorem d_Mo_arrears_73 : dz b_Mo_arrears 73 (.getfield 219) 3 76 := ⟨by decide +kernel, rfl⟩
theorem d_Mo_arrears_76 : dz b_Mo_arrears 76 (.iload 4) 2 78 := ⟨by decide +kernel, rfl⟩
theorem d_Mo_arrears_78 : dz b_Mo_arrears 78 (.iaload) 1 79 := ⟨by decide +kernel, rfl⟩
theorem d_Mo_arrears_79 : dj b_Mo_arrears 79 (.goto) 82 83 := ⟨4, by decide +kernel, rfl, by decide⟩
theorem d_Mo_arrears_82 : dz b_Mo_arrears 82 (.iconst 0) 1 83 := ⟨by decide +kernel, rfl⟩
theorem d_Mo_arrears_83 : dz b_Mo_arrears 83 (.isub) 1 84 := ⟨by decide +kernel, rfl⟩
theorem d_Mo_arrears_84 : dz b_Mo_arrears 84 (.istore_n 3) 1 85 := ⟨by decide +kernel, rfl⟩
theorem d_Mo_arrears_85 : dz b_Mo_arrears 85 (.iinc 4 1) 3 88 := ⟨by decide +kernel, rfl⟩
theorem d_Mo_arrears_88 : dj b_Mo_arrears 88 (.goto) 91 40 := ⟨(-48), by decide +kernel, rfl, by decide⟩
theorem d_Mo_arrears_91 : dz b_Mo_arrears 91 (.iload_n 3) 1 92 := ⟨by decide +kernel, rfl⟩
theorem d_Mo_arrears_92 : dz b_Mo_arrears 92 (.ireturn) 1 93 := ⟨by decide +kernel, rfl⟩
theorem d_Mo_worth_0 : dz b_Mo_worth 0 (.iload_n 1) 1 1 := ⟨by decide +kernel, rfl⟩
theorem d_Mo_worth_1 : dj b_Mo_worth 1 (.ifCond .lt) 4 30 := ⟨29, by decide +kernel, rfl, by decide⟩
theorem d_Mo_worth_4 : dz b_Mo_worth 4 (.iload_n 1) 1 5 := ⟨by decide +kernel, rfl⟩
theorem d_Mo_worth_5 : dz b_Mo_worth 5 (.iconst 5) 1 6 := ⟨by decide +kernel, rfl⟩
theorem d_Mo_worth_6 : dj b_Mo_worth 6 (.if_icmp .ge) 9 30 := ⟨24, by decide +kernel, rfl, by decide⟩
theorem d_Mo_worth_9 : dz b_Mo_worth 9 (.iload_n 2) 1 10 := ⟨by decide +kernel, rfl⟩
theorem d_Mo_worth_10 : dj b_Mo_worth 10 (.ifCond .lt) 13 30 := ⟨20, by decide +kernel, rfl, by decide⟩
theorem d_Mo_worth_13 : dz b_Mo_worth 13 (.iload_n 2) 1 14 := ⟨by decide +kernel, rfl⟩
theorem d_Mo_worth_14 : dz b_Mo_worth 14 (.bipush 10) 2 16 := ⟨by decide +kernel, rfl⟩
theorem d_Mo_worth_16 : dj b_Mo_worth 16 (.if_icmp .ge) 19 30 := ⟨14, by decide +kernel, rfl, by decide⟩
theorem d_Mo_worth_19 : dz b_Mo_worth 19 (.iload_n 3) 1 20 := ⟨by decide +kernel, rfl⟩
theorem d_Mo_worth_20 : dj b_Mo_worth 20 (.ifCond .lt) 23 30 := ⟨10, by decide +kernel, rfl, by decide⟩
theorem d_Mo_worth_23 : dz b_Mo_worth 23 (.iload_n 3) 1 24 := ⟨by decide +kernel, rfl⟩
theorem d_Mo_worth_24 : dz b_Mo_worth 24 (.sipush 1000) 3 27 := ⟨by decide +kernel, rfl⟩
theorem d_Mo_worth_27 : dj b_Mo_worth 27 (.if_icmp .le) 30 32 := ⟨5, by decide +kernel, rfl, by decide⟩
theorem d_Mo_worth_30 : dz b_Mo_worth 30 (.iconst 0) 1 31 := ⟨by decide +kernel, rfl⟩
theorem d_Mo_worth_31 : dz b_Mo_worth 31 (.ireturn) 1 32 := ⟨by decide +kernel, rfl⟩
theorem d_Mo_worth_32 : dz b_Mo_worth 32 (.aload_n 0) 1 33 := ⟨by decide +kernel, rfl⟩
theorem d_Mo_worth_33 : dz b_Mo_worth 33 (.getfield 222) 3 36 := ⟨by decide +kernel, rfl⟩
theorem d_Mo_worth_36 : dz b_Mo_worth 36 (.bipush 10) 2 38 := ⟨by decide +kernel, rfl⟩
theorem d_Mo_worth_38 : dz b_Mo_worth 38 (.iload_n 1) 1 39 := ⟨by decide +kernel, rfl⟩
theorem d_Mo_worth_39 : dz b_Mo_worth 39 (.imul) 1 40 := ⟨by decide +kernel, rfl⟩
theorem d_Mo_worth_40 : dz b_Mo_worth 40 (.iload_n 2) 1 41 := ⟨by decide +kernel, rfl⟩
theorem d_Mo_worth_41 : dz b_Mo_worth 41 (.iadd) 1 42 := ⟨by decide +kernel, rfl⟩
theorem d_Mo_worth_42 : dz b_Mo_worth 42 (.iload_n 3) 1 43 := ⟨by decide +kernel, rfl⟩
theorem d_Mo_worth_43 : dz b_Mo_worth 43 (.iastore) 1 44 := ⟨by decide +kernel, rfl⟩
theorem d_Mo_worth_44 : dz b_Mo_worth 44 (.iconst 1) 1 45 := ⟨by decide +kernel, rfl⟩
theorem d_Mo_worth_45 : dz b_Mo_worth 45 (.ireturn) 1 46 := ⟨by decide +kernel, rfl⟩
theorem d_Mo_debt_0 : dz b_Mo_debt 0 (.aload_n 0) 1 1 := ⟨by decide +kernel, rfl⟩
theorem d_Mo_debt_1 : dz b_Mo_debt 1 (.iload_n 1) 1 2 := ⟨by decide +kernel, rfl⟩
theorem d_Mo_debt_2 : dz b_Mo_debt 2 (.invokevirtual 59) 3 5 := ⟨by decide +kernel, rfl⟩
theorem d_Mo_debt_5 : dj b_Mo_debt 5 (.ifCond .eq) 8 61 := ⟨56, by decide +kernel, rfl, by decide⟩
theorem d_Mo_debt_8 : dz b_Mo_debt 8 (.aload_n 0) 1 9 := ⟨by decide +kernel, rfl⟩
theorem d_Mo_debt_9 : dz b_Mo_debt 9 (.iload_n 2) 1 10 := ⟨by decide +kernel, rfl⟩
theorem d_Mo_debt_10 : dz b_Mo_debt 10 (.invokevirtual 59) 3 13 := ⟨by decide +kernel, rfl⟩
theorem d_Mo_debt_13 : dj b_Mo_debt 13 (.ifCond .eq) 16 61 := ⟨48, by decide +kernel, rfl, by decide⟩
theorem d_Mo_debt_16 : dz b_Mo_debt 16 (.iload_n 1) 1 17 := ⟨by decide +kernel, rfl⟩
theorem d_Mo_debt_17 : dz b_Mo_debt 17 (.iload_n 2) 1 18 := ⟨by decide +kernel, rfl⟩
theorem d_Mo_debt_18 : dj b_Mo_debt 18 (.if_icmp .eq) 21 61 := ⟨43, by decide +kernel, rfl, by decide⟩
theorem d_Mo_debt_21 : dz b_Mo_debt 21 (.iload_n 3) 1 22 := ⟨by decide +kernel, rfl⟩
theorem d_Mo_debt_22 : dj b_Mo_debt 22 (.ifCond .lt) 25 61 := ⟨39, by decide +kernel, rfl, by decide⟩
theorem d_Mo_debt_25 : dz b_Mo_debt 25 (.iload_n 3) 1 26 := ⟨by decide +kernel, rfl⟩
theorem d_Mo_debt_26 : dz b_Mo_debt 26 (.iconst 5) 1 27 := ⟨by decide +kernel, rfl⟩
theorem d_Mo_debt_27 : dj b_Mo_debt 27 (.if_icmp .ge) 30 61 := ⟨34, by decide +kernel, rfl, by decide⟩
theorem d_Mo_debt_30 : dz b_Mo_debt 30 (.iload 4) 2 32 := ⟨by decide +kernel, rfl⟩
theorem d_Mo_debt_32 : dz b_Mo_debt 32 (.iconst 1) 1 33 := ⟨by decide +kernel, rfl⟩
theorem d_Mo_debt_33 : dj b_Mo_debt 33 (.if_icmp .lt) 36 61 := ⟨28, by decide +kernel, rfl, by decide⟩
theorem d_Mo_debt_36 : dz b_Mo_debt 36 (.iload 4) 2 38 := ⟨by decide +kernel, rfl⟩
theorem d_Mo_debt_38 : dz b_Mo_debt 38 (.sipush 1000) 3 41 := ⟨by decide +kernel, rfl⟩
theorem d_Mo_debt_41 : dj b_Mo_debt 41 (.if_icmp .gt) 44 61 := ⟨20, by decide +kernel, rfl, by decide⟩
theorem d_Mo_debt_44 : dz b_Mo_debt 44 (.iload 5) 2 46 := ⟨by decide +kernel, rfl⟩
theorem d_Mo_debt_46 : dz b_Mo_debt 46 (.invokestatic 195) 3 49 := ⟨by decide +kernel, rfl⟩
theorem d_Mo_debt_49 : dj b_Mo_debt 49 (.ifCond .eq) 52 61 := ⟨12, by decide +kernel, rfl, by decide⟩
theorem d_Mo_debt_52 : dz b_Mo_debt 52 (.aload_n 0) 1 53 := ⟨by decide +kernel, rfl⟩
theorem d_Mo_debt_53 : dz b_Mo_debt 53 (.getfield 253) 3 56 := ⟨by decide +kernel, rfl⟩
theorem d_Mo_debt_56 : dz b_Mo_debt 56 (.bipush 60) 2 58 := ⟨by decide +kernel, rfl⟩
theorem d_Mo_debt_58 : dj b_Mo_debt 58 (.if_icmp .ne) 61 63 := ⟨5, by decide +kernel, rfl, by decide⟩
theorem d_Mo_debt_61 : dz b_Mo_debt 61 (.iconst (-1)) 1 62 := ⟨by decide +kernel, rfl⟩
theorem d_Mo_debt_62 : dz b_Mo_debt 62 (.ireturn) 1 63 := ⟨by decide +kernel, rfl⟩
theorem d_Mo_debt_63 : dz b_Mo_debt 63 (.aload_n 0) 1 64 := ⟨by decide +kernel, rfl⟩
theorem d_Mo_debt_64 : dz b_Mo_debt 64 (.getfield 225) 3 67 := ⟨by decide +kernel, rfl⟩
theorem d_Mo_debt_67 : dz b_Mo_debt 67 (.aload_n 0) 1 68 := ⟨by decide +kernel, rfl⟩
theorem d_Mo_debt_68 : dz b_Mo_debt 68 (.getfield 253) 3 71 := ⟨by decide +kernel, rfl⟩
theorem d_Mo_debt_71 : dz b_Mo_debt 71 (.iload_n 1) 1 72 := ⟨by decide +kernel, rfl⟩
theorem d_Mo_debt_72 : dz b_Mo_debt 72 (.iastore) 1 73 := ⟨by decide +kernel, rfl⟩
theorem d_Mo_debt_73 : dz b_Mo_debt 73 (.aload_n 0) 1 74 := ⟨by decide +kernel, rfl⟩
theorem d_Mo_debt_74 : dz b_Mo_debt 74 (.getfield 228) 3 77 := ⟨by decide +kernel, rfl⟩
theorem d_Mo_debt_77 : dz b_Mo_debt 77 (.aload_n 0) 1 78 := ⟨by decide +kernel, rfl⟩
theorem d_Mo_debt_78 : dz b_Mo_debt 78 (.getfield 253) 3 81 := ⟨by decide +kernel, rfl⟩
theorem d_Mo_debt_81 : dz b_Mo_debt 81 (.iload_n 2) 1 82 := ⟨by decide +kernel, rfl⟩
theorem d_Mo_debt_82 : dz b_Mo_debt 82 (.iastore) 1 83 := ⟨by decide +kernel, rfl⟩
theorem d_Mo_debt_83 : dz b_Mo_debt 83 (.aload_n 0) 1 84 := ⟨by decide +kernel, rfl⟩
theorem d_Mo_debt_84 : dz b_Mo_debt 84 (.getfield 231) 3 87 := ⟨by decide +kernel, rfl⟩
theorem d_Mo_debt_87 : dz b_Mo_debt 87 (.aload_n 0) 1 88 := ⟨by decide +kernel, rfl⟩
theorem d_Mo_debt_88 : dz b_Mo_debt 88 (.getfield 253) 3 91 := ⟨by decide +kernel, rfl⟩
theorem d_Mo_debt_91 : dz b_Mo_debt 91 (.iload_n 3) 1 92 := ⟨by decide +kernel, rfl⟩
theorem d_Mo_debt_92 : dz b_Mo_debt 92 (.iastore) 1 93 := ⟨by decide +kernel, rfl⟩
theorem d_Mo_debt_93 : dz b_Mo_debt 93 (.aload_n 0) 1 94 := ⟨by decide +kernel, rfl⟩
theorem d_Mo_debt_94 : dz b_Mo_debt 94 (.getfield 234) 3 97 := ⟨by decide +kernel, rfl⟩
theorem d_Mo_debt_97 : dz b_Mo_debt 97 (.aload_n 0) 1 98 := ⟨by decide +kernel, rfl⟩
theorem d_Mo_debt_98 : dz b_Mo_debt 98 (.getfield 253) 3 101 := ⟨by decide +kernel, rfl⟩
theorem d_Mo_debt_101 : dz b_Mo_debt 101 (.iload 4) 2 103 := ⟨by decide +kernel, rfl⟩
theorem d_Mo_debt_103 : dz b_Mo_debt 103 (.iastore) 1 104 := ⟨by decide +kernel, rfl⟩
theorem d_Mo_debt_104 : dz b_Mo_debt 104 (.aload_n 0) 1 105 := ⟨by decide +kernel, rfl⟩
theorem d_Mo_debt_105 : dz b_Mo_debt 105 (.getfield 237) 3 108 := ⟨by decide +kernel, rfl⟩
theorem d_Mo_debt_108 : dz b_Mo_debt 108 (.aload_n 0) 1 109 := ⟨by decide +kernel, rfl⟩
theorem d_Mo_debt_109 : dz b_Mo_debt 109 (.getfield 253) 3 112 := ⟨by decide +kernel, rfl⟩
theorem d_Mo_debt_112 : dz b_Mo_debt 112 (.iload 5) 2 114 := ⟨by decide +kernel, rfl⟩
theorem d_Mo_debt_114 : dz b_Mo_debt 114 (.iastore) 1 115 := ⟨by decide +kernel, rfl⟩
theorem d_Mo_debt_115 : dz b_Mo_debt 115 (.aload_n 0) 1 116 := ⟨by decide +kernel, rfl⟩
theorem d_Mo_debt_116 : dz b_Mo_debt 116 (.getfield 240) 3 119 := ⟨by decide +kernel, rfl⟩
theorem d_Mo_debt_119 : dz b_Mo_debt 119 (.aload_n 0) 1 120 := ⟨by decide +kernel, rfl⟩
theorem d_Mo_debt_120 : dz b_Mo_debt 120 (.getfield 253) 3 123 := ⟨by decide +kernel, rfl⟩
theorem d_Mo_debt_123 : dz b_Mo_debt 123 (.iconst (-1)) 1 124 := ⟨by decide +kernel, rfl⟩
theorem d_Mo_debt_124 : dz b_Mo_debt 124 (.iastore) 1 125 := ⟨by decide +kernel, rfl⟩
theorem d_Mo_debt_125 : dz b_Mo_debt 125 (.aload_n 0) 1 126 := ⟨by decide +kernel, rfl⟩
theorem d_Mo_debt_126 : dz b_Mo_debt 126 (.dup) 1 127 := ⟨by decide +kernel, rfl⟩
theorem d_Mo_debt_127 : dz b_Mo_debt 127 (.getfield 253) 3 130 := ⟨by decide +kernel, rfl⟩
theorem d_Mo_debt_130 : dz b_Mo_debt 130 (.iconst 1) 1 131 := ⟨by decide +kernel, rfl⟩
theorem d_Mo_debt_131 : dz b_Mo_debt 131 (.iadd) 1 132 := ⟨by decide +kernel, rfl⟩
theorem d_Mo_debt_132 : dz b_Mo_debt 132 (.putfield 253) 3 135 := ⟨by decide +kernel, rfl⟩
theorem d_Mo_debt_135 : dz b_Mo_debt 135 (.aload_n 0) 1 136 := ⟨by decide +kernel, rfl⟩
theorem d_Mo_debt_136 : dz b_Mo_debt 136 (.getfield 253) 3 139 := ⟨by decide +kernel, rfl⟩
theorem d_Mo_debt_139 : dz b_Mo_debt 139 (.iconst 1) 1 140 := ⟨by decide +kernel, rfl⟩
theorem d_Mo_debt_140 : dz b_Mo_debt 140 (.isub) 1 141 := ⟨by decide +kernel, rfl⟩
theorem d_Mo_debt_141 : dz b_Mo_debt 141 (.ireturn) 1 142 := ⟨by decide +kernel, rfl⟩
theorem d_Mo_pay_0 : dz b_Mo_pay 0 (.iload_n 1) 1 1 := ⟨by decide +kernel, rfl⟩
theorem d_Mo_pay_1 : dj b_Mo_pay 1 (.ifCond .lt) 4 38 := ⟨37, by decide +kernel, rfl, by decide⟩
theorem d_Mo_pay_4 : dz b_Mo_pay 4 (.iload_n 1) 1 5 := ⟨by decide +kernel, rfl⟩
theorem d_Mo_pay_5 : dz b_Mo_pay 5 (.aload_n 0) 1 6 := ⟨by decide +kernel, rfl⟩
theorem d_Mo_pay_6 : dz b_Mo_pay 6 (.getfield 253) 3 9 := ⟨by decide +kernel, rfl⟩
theorem d_Mo_pay_9 : dj b_Mo_pay 9 (.if_icmp .ge) 12 38 := ⟨29, by decide +kernel, rfl, by decide⟩
theorem d_Mo_pay_12 : dz b_Mo_pay 12 (.aload_n 0) 1 13 := ⟨by decide +kernel, rfl⟩
theorem d_Mo_pay_13 : dz b_Mo_pay 13 (.getfield 240) 3 16 := ⟨by decide +kernel, rfl⟩
theorem d_Mo_pay_16 : dz b_Mo_pay 16 (.iload_n 1) 1 17 := ⟨by decide +kernel, rfl⟩
theorem d_Mo_pay_17 : dz b_Mo_pay 17 (.iaload) 1 18 := ⟨by decide +kernel, rfl⟩
theorem d_Mo_pay_18 : dj b_Mo_pay 18 (.ifCond .ge) 21 38 := ⟨20, by decide +kernel, rfl, by decide⟩
theorem d_Mo_pay_21 : dz b_Mo_pay 21 (.iload_n 2) 1 22 := ⟨by decide +kernel, rfl⟩
theorem d_Mo_pay_22 : dz b_Mo_pay 22 (.invokestatic 195) 3 25 := ⟨by decide +kernel, rfl⟩
theorem d_Mo_pay_25 : dj b_Mo_pay 25 (.ifCond .eq) 28 38 := ⟨13, by decide +kernel, rfl, by decide⟩
theorem d_Mo_pay_28 : dz b_Mo_pay 28 (.iload_n 2) 1 29 := ⟨by decide +kernel, rfl⟩
theorem d_Mo_pay_29 : dz b_Mo_pay 29 (.aload_n 0) 1 30 := ⟨by decide +kernel, rfl⟩
theorem d_Mo_pay_30 : dz b_Mo_pay 30 (.getfield 237) 3 33 := ⟨by decide +kernel, rfl⟩
theorem d_Mo_pay_33 : dz b_Mo_pay 33 (.iload_n 1) 1 34 := ⟨by decide +kernel, rfl⟩
theorem d_Mo_pay_34 : dz b_Mo_pay 34 (.iaload) 1 35 := ⟨by decide +kernel, rfl⟩
theorem d_Mo_pay_35 : dj b_Mo_pay 35 (.if_icmp .ge) 38 40 := ⟨5, by decide +kernel, rfl, by decide⟩
theorem d_Mo_pay_38 : dz b_Mo_pay 38 (.iconst 0) 1 39 := ⟨by decide +kernel, rfl⟩
theorem d_Mo_pay_39 : dz b_Mo_pay 39 (.ireturn) 1 40 := ⟨by decide +kernel, rfl⟩
theorem d_Mo_pay_40 : dz b_Mo_pay 40 (.aload_n 0) 1 41 := ⟨by decide +kernel, rfl⟩
theorem d_Mo_pay_41 : dz b_Mo_pay 41 (.getfield 240) 3 44 := ⟨by decide +kernel, rfl⟩
theorem d_Mo_pay_44 : dz b_Mo_pay 44 (.iload_n 1) 1 45 := ⟨by decide +kernel, rfl⟩
theorem d_Mo_pay_45 : dz b_Mo_pay 45 (.iload_n 2) 1 46 := ⟨by decide +kernel, rfl⟩
theorem d_Mo_pay_46 : dz b_Mo_pay 46 (.iastore) 1 47 := ⟨by decide +kernel, rfl⟩
theorem d_Mo_pay_47 : dz b_Mo_pay 47 (.iconst 1) 1 48 := ⟨by decide +kernel, rfl⟩
theorem d_Mo_pay_48 : dz b_Mo_pay 48 (.ireturn) 1 49 := ⟨by decide +kernel, rfl⟩
theorem d_Mo_balanceOf_0 : dz b_Mo_balanceOf 0 (.iconst 0) 1 1 := ⟨by decide +kernel, rfl⟩
theorem d_Mo_balanceOf_1 : dz b_Mo_balanceOf 1 (.istore_n 3) 1 2 := ⟨by decide +kernel, rfl⟩
theorem d_Mo_balanceOf_2 : dz b_Mo_balanceOf 2 (.iconst 0) 1 3 := ⟨by decide +kernel, rfl⟩
theorem d_Mo_balanceOf_3 : dz b_Mo_balanceOf 3 (.istore 4) 2 5 := ⟨by decide +kernel, rfl⟩
theorem d_Mo_balanceOf_5 : dz b_Mo_balanceOf 5 (.iload 4) 2 7 := ⟨by decide +kernel, rfl⟩
theorem d_Mo_balanceOf_7 : dz b_Mo_balanceOf 7 (.aload_n 0) 1 8 := ⟨by decide +kernel, rfl⟩
theorem d_Mo_balanceOf_8 : dz b_Mo_balanceOf 8 (.getfield 253) 3 11 := ⟨by decide +kernel, rfl⟩
theorem d_Mo_balanceOf_11 : dj b_Mo_balanceOf 11 (.if_icmp .ge) 14 129 := ⟨118, by decide +kernel, rfl, by decide⟩
theorem d_Mo_balanceOf_14 : dz b_Mo_balanceOf 14 (.aload_n 0) 1 15 := ⟨by decide +kernel, rfl⟩
theorem d_Mo_balanceOf_15 : dz b_Mo_balanceOf 15 (.getfield 237) 3 18 := ⟨by decide +kernel, rfl⟩
theorem d_Mo_balanceOf_18 : dz b_Mo_balanceOf 18 (.iload 4) 2 20 := ⟨by decide +kernel, rfl⟩
theorem d_Mo_balanceOf_20 : dz b_Mo_balanceOf 20 (.iaload) 1 21 := ⟨by decide +kernel, rfl⟩
theorem d_Mo_balanceOf_21 : dz b_Mo_balanceOf 21 (.iload_n 2) 1 22 := ⟨by decide +kernel, rfl⟩
theorem d_Mo_balanceOf_22 : dj b_Mo_balanceOf 22 (.if_icmp .gt) 25 123 := ⟨101, by decide +kernel, rfl, by decide⟩
theorem d_Mo_balanceOf_25 : dz b_Mo_balanceOf 25 (.aload_n 0) 1 26 := ⟨by decide +kernel, rfl⟩
theorem d_Mo_balanceOf_26 : dz b_Mo_balanceOf 26 (.getfield 240) 3 29 := ⟨by decide +kernel, rfl⟩
theorem d_Mo_balanceOf_29 : dz b_Mo_balanceOf 29 (.iload 4) 2 31 := ⟨by decide +kernel, rfl⟩
theorem d_Mo_balanceOf_31 : dz b_Mo_balanceOf 31 (.iaload) 1 32 := ⟨by decide +kernel, rfl⟩
theorem d_Mo_balanceOf_32 : dj b_Mo_balanceOf 32 (.ifCond .lt) 35 49 := ⟨17, by decide +kernel, rfl, by decide⟩
theorem d_Mo_balanceOf_35 : dz b_Mo_balanceOf 35 (.aload_n 0) 1 36 := ⟨by decide +kernel, rfl⟩
theorem d_Mo_balanceOf_36 : dz b_Mo_balanceOf 36 (.getfield 240) 3 39 := ⟨by decide +kernel, rfl⟩
theorem d_Mo_balanceOf_39 : dz b_Mo_balanceOf 39 (.iload 4) 2 41 := ⟨by decide +kernel, rfl⟩
theorem d_Mo_balanceOf_41 : dz b_Mo_balanceOf 41 (.iaload) 1 42 := ⟨by decide +kernel, rfl⟩
theorem d_Mo_balanceOf_42 : dz b_Mo_balanceOf 42 (.iload_n 2) 1 43 := ⟨by decide +kernel, rfl⟩
theorem d_Mo_balanceOf_43 : dj b_Mo_balanceOf 43 (.if_icmp .gt) 46 49 := ⟨6, by decide +kernel, rfl, by decide⟩
theorem d_Mo_balanceOf_46 : dj b_Mo_balanceOf 46 (.goto) 49 123 := ⟨77, by decide +kernel, rfl, by decide⟩
theorem d_Mo_balanceOf_49 : dz b_Mo_balanceOf 49 (.aload_n 0) 1 50 := ⟨by decide +kernel, rfl⟩
theorem d_Mo_balanceOf_50 : dz b_Mo_balanceOf 50 (.getfield 234) 3 53 := ⟨by decide +kernel, rfl⟩
theorem d_Mo_balanceOf_53 : dz b_Mo_balanceOf 53 (.iload 4) 2 55 := ⟨by decide +kernel, rfl⟩
theorem d_Mo_balanceOf_55 : dz b_Mo_balanceOf 55 (.iaload) 1 56 := ⟨by decide +kernel, rfl⟩
theorem d_Mo_balanceOf_56 : dz b_Mo_balanceOf 56 (.aload_n 0) 1 57 := ⟨by decide +kernel, rfl⟩
theorem d_Mo_balanceOf_57 : dz b_Mo_balanceOf 57 (.getfield 222) 3 60 := ⟨by decide +kernel, rfl⟩
theorem d_Mo_balanceOf_60 : dz b_Mo_balanceOf 60 (.bipush 10) 2 62 := ⟨by decide +kernel, rfl⟩
theorem d_Mo_balanceOf_62 : dz b_Mo_balanceOf 62 (.aload_n 0) 1 63 := ⟨by decide +kernel, rfl⟩
theorem d_Mo_balanceOf_63 : dz b_Mo_balanceOf 63 (.getfield 231) 3 66 := ⟨by decide +kernel, rfl⟩
theorem d_Mo_balanceOf_66 : dz b_Mo_balanceOf 66 (.iload 4) 2 68 := ⟨by decide +kernel, rfl⟩
theorem d_Mo_balanceOf_68 : dz b_Mo_balanceOf 68 (.iaload) 1 69 := ⟨by decide +kernel, rfl⟩
theorem d_Mo_balanceOf_69 : dz b_Mo_balanceOf 69 (.imul) 1 70 := ⟨by decide +kernel, rfl⟩
theorem d_Mo_balanceOf_70 : dz b_Mo_balanceOf 70 (.aload_n 0) 1 71 := ⟨by decide +kernel, rfl⟩
theorem d_Mo_balanceOf_71 : dz b_Mo_balanceOf 71 (.getfield 237) 3 74 := ⟨by decide +kernel, rfl⟩
theorem d_Mo_balanceOf_74 : dz b_Mo_balanceOf 74 (.iload 4) 2 76 := ⟨by decide +kernel, rfl⟩
theorem d_Mo_balanceOf_76 : dz b_Mo_balanceOf 76 (.iaload) 1 77 := ⟨by decide +kernel, rfl⟩
theorem d_Mo_balanceOf_77 : dz b_Mo_balanceOf 77 (.sipush 360) 3 80 := ⟨by decide +kernel, rfl⟩
theorem d_Mo_balanceOf_80 : dz b_Mo_balanceOf 80 (.idiv) 1 81 := ⟨by decide +kernel, rfl⟩
theorem d_Mo_balanceOf_81 : dz b_Mo_balanceOf 81 (.iadd) 1 82 := ⟨by decide +kernel, rfl⟩
theorem d_Mo_balanceOf_82 : dz b_Mo_balanceOf 82 (.iaload) 1 83 := ⟨by decide +kernel, rfl⟩
theorem d_Mo_balanceOf_83 : dz b_Mo_balanceOf 83 (.imul) 1 84 := ⟨by decide +kernel, rfl⟩
theorem d_Mo_balanceOf_84 : dz b_Mo_balanceOf 84 (.istore 5) 2 86 := ⟨by decide +kernel, rfl⟩
theorem d_Mo_balanceOf_86 : dz b_Mo_balanceOf 86 (.iload_n 3) 1 87 := ⟨by decide +kernel, rfl⟩
theorem d_Mo_balanceOf_87 : dz b_Mo_balanceOf 87 (.aload_n 0) 1 88 := ⟨by decide +kernel, rfl⟩
theorem d_Mo_balanceOf_88 : dz b_Mo_balanceOf 88 (.getfield 228) 3 91 := ⟨by decide +kernel, rfl⟩
theorem d_Mo_balanceOf_91 : dz b_Mo_balanceOf 91 (.iload 4) 2 93 := ⟨by decide +kernel, rfl⟩
theorem d_Mo_balanceOf_93 : dz b_Mo_balanceOf 93 (.iaload) 1 94 := ⟨by decide +kernel, rfl⟩
theorem d_Mo_balanceOf_94 : dz b_Mo_balanceOf 94 (.iload_n 1) 1 95 := ⟨by decide +kernel, rfl⟩
theorem d_Mo_balanceOf_95 : dj b_Mo_balanceOf 95 (.if_icmp .ne) 98 103 := ⟨8, by decide +kernel, rfl, by decide⟩
theorem d_Mo_balanceOf_98 : dz b_Mo_balanceOf 98 (.iload 5) 2 100 := ⟨by decide +kernel, rfl⟩
theorem d_Mo_balanceOf_100 : dj b_Mo_balanceOf 100 (.goto) 103 121 := ⟨21, by decide +kernel, rfl, by decide⟩
theorem d_Mo_balanceOf_103 : dz b_Mo_balanceOf 103 (.aload_n 0) 1 104 := ⟨by decide +kernel, rfl⟩
theorem d_Mo_balanceOf_104 : dz b_Mo_balanceOf 104 (.getfield 225) 3 107 := ⟨by decide +kernel, rfl⟩
theorem d_Mo_balanceOf_107 : dz b_Mo_balanceOf 107 (.iload 4) 2 109 := ⟨by decide +kernel, rfl⟩
theorem d_Mo_balanceOf_109 : dz b_Mo_balanceOf 109 (.iaload) 1 110 := ⟨by decide +kernel, rfl⟩
theorem d_Mo_balanceOf_110 : dz b_Mo_balanceOf 110 (.iload_n 1) 1 111 := ⟨by decide +kernel, rfl⟩
theorem d_Mo_balanceOf_111 : dj b_Mo_balanceOf 111 (.if_icmp .ne) 114 120 := ⟨9, by decide +kernel, rfl, by decide⟩
theorem d_Mo_balanceOf_114 : dz b_Mo_balanceOf 114 (.iload 5) 2 116 := ⟨by decide +kernel, rfl⟩
theorem d_Mo_balanceOf_116 : dz b_Mo_balanceOf 116 (.ineg) 1 117 := ⟨by decide +kernel, rfl⟩
theorem d_Mo_balanceOf_117 : dj b_Mo_balanceOf 117 (.goto) 120 121 := ⟨4, by decide +kernel, rfl, by decide⟩
theorem d_Mo_balanceOf_120 : dz b_Mo_balanceOf 120 (.iconst 0) 1 121 := ⟨by decide +kernel, rfl⟩
theorem d_Mo_balanceOf_121 : dz b_Mo_balanceOf 121 (.iadd) 1 122 := ⟨by decide +kernel, rfl⟩
theorem d_Mo_balanceOf_122 : dz b_Mo_balanceOf 122 (.istore_n 3) 1 123 := ⟨by decide +kernel, rfl⟩
theorem d_Mo_balanceOf_123 : dz b_Mo_balanceOf 123 (.iinc 4 1) 3 126 := ⟨by decide +kernel, rfl⟩
theorem d_Mo_balanceOf_126 : dj b_Mo_balanceOf 126 (.goto) 129 5 := ⟨(-121), by decide +kernel, rfl, by decide⟩
theorem d_Mo_balanceOf_129 : dz b_Mo_balanceOf 129 (.iload_n 3) 1 130 := ⟨by decide +kernel, rfl⟩
theorem d_Mo_balanceOf_130 : dz b_Mo_balanceOf 130 (.ireturn) 1 131 := ⟨by decide +kernel, rfl⟩
theorem d_Mo_balance_0 : dz b_Mo_balance 0 (.aload_n 0) 1 1 := ⟨by decide +kernel, rfl⟩
theorem d_Mo_balance_1 : dz b_Mo_balance 1 (.iload_n 1) 1 2 := ⟨by decide +kernel, rfl⟩
theorem d_Mo_balance_2 : dz b_Mo_balance 2 (.invokevirtual 59) 3 5 := ⟨by decide +kernel, rfl⟩
theorem d_Mo_balance_5 : dj b_Mo_balance 5 (.ifCond .eq) 8 24 := ⟨19, by decide +kernel, rfl, by decide⟩
theorem d_Mo_balance_8 : dz b_Mo_balance 8 (.iload_n 2) 1 9 := ⟨by decide +kernel, rfl⟩
theorem d_Mo_balance_9 : dz b_Mo_balance 9 (.invokestatic 195) 3 12 := ⟨by decide +kernel, rfl⟩
theorem d_Mo_balance_12 : dj b_Mo_balance 12 (.ifCond .eq) 15 24 := ⟨12, by decide +kernel, rfl, by decide⟩
theorem d_Mo_balance_15 : dz b_Mo_balance 15 (.aload_n 0) 1 16 := ⟨by decide +kernel, rfl⟩
theorem d_Mo_balance_16 : dz b_Mo_balance 16 (.iload_n 1) 1 17 := ⟨by decide +kernel, rfl⟩
theorem d_Mo_balance_17 : dz b_Mo_balance 17 (.iload_n 2) 1 18 := ⟨by decide +kernel, rfl⟩
theorem d_Mo_balance_18 : dz b_Mo_balance 18 (.invokevirtual 256) 3 21 := ⟨by decide +kernel, rfl⟩
theorem d_Mo_balance_21 : dj b_Mo_balance 21 (.goto) 24 27 := ⟨6, by decide +kernel, rfl, by decide⟩
theorem d_Mo_balance_24 : dz b_Mo_balance 24 (.ldc_w 259) 3 27 := ⟨by decide +kernel, rfl⟩
theorem d_Mo_balance_27 : dz b_Mo_balance 27 (.ireturn) 1 28 := ⟨by decide +kernel, rfl⟩
theorem d_Mo_fewest_0 : dz b_Mo_fewest 0 (.iload_n 1) 1 1 := ⟨by decide +kernel, rfl⟩
theorem d_Mo_fewest_1 : dz b_Mo_fewest 1 (.invokestatic 195) 3 4 := ⟨by decide +kernel, rfl⟩
theorem d_Mo_fewest_4 : dj b_Mo_fewest 4 (.ifCond .ne) 7 9 := ⟨5, by decide +kernel, rfl, by decide⟩
theorem d_Mo_fewest_7 : dz b_Mo_fewest 7 (.iconst (-1)) 1 8 := ⟨by decide +kernel, rfl⟩
theorem d_Mo_fewest_8 : dz b_Mo_fewest 8 (.ireturn) 1 9 := ⟨by decide +kernel, rfl⟩
theorem d_Mo_fewest_9 : dz b_Mo_fewest 9 (.iconst 0) 1 10 := ⟨by decide +kernel, rfl⟩
theorem d_Mo_fewest_10 : dz b_Mo_fewest 10 (.istore_n 2) 1 11 := ⟨by decide +kernel, rfl⟩
theorem d_Mo_fewest_11 : dz b_Mo_fewest 11 (.iconst 0) 1 12 := ⟨by decide +kernel, rfl⟩
theorem d_Mo_fewest_12 : dz b_Mo_fewest 12 (.istore_n 3) 1 13 := ⟨by decide +kernel, rfl⟩
theorem d_Mo_fewest_13 : dz b_Mo_fewest 13 (.iload_n 3) 1 14 := ⟨by decide +kernel, rfl⟩
theorem d_Mo_fewest_14 : dz b_Mo_fewest 14 (.aload_n 0) 1 15 := ⟨by decide +kernel, rfl⟩
theorem d_Mo_fewest_15 : dz b_Mo_fewest 15 (.getfield 1) 3 18 := ⟨by decide +kernel, rfl⟩
theorem d_Mo_fewest_18 : dj b_Mo_fewest 18 (.if_icmp .ge) 21 93 := ⟨75, by decide +kernel, rfl, by decide⟩
theorem d_Mo_fewest_21 : dz b_Mo_fewest 21 (.aload_n 0) 1 22 := ⟨by decide +kernel, rfl⟩
theorem d_Mo_fewest_22 : dz b_Mo_fewest 22 (.iload_n 3) 1 23 := ⟨by decide +kernel, rfl⟩
theorem d_Mo_fewest_23 : dz b_Mo_fewest 23 (.iload_n 1) 1 24 := ⟨by decide +kernel, rfl⟩
theorem d_Mo_fewest_24 : dz b_Mo_fewest 24 (.invokevirtual 256) 3 27 := ⟨by decide +kernel, rfl⟩
theorem d_Mo_fewest_27 : dz b_Mo_fewest 27 (.istore 4) 2 29 := ⟨by decide +kernel, rfl⟩
theorem d_Mo_fewest_29 : dz b_Mo_fewest 29 (.iload 4) 2 31 := ⟨by decide +kernel, rfl⟩
theorem d_Mo_fewest_31 : dj b_Mo_fewest 31 (.ifCond .ne) 34 37 := ⟨6, by decide +kernel, rfl, by decide⟩
theorem d_Mo_fewest_34 : dj b_Mo_fewest 34 (.goto) 37 87 := ⟨53, by decide +kernel, rfl, by decide⟩
theorem d_Mo_fewest_37 : dz b_Mo_fewest 37 (.iconst 0) 1 38 := ⟨by decide +kernel, rfl⟩
theorem d_Mo_fewest_38 : dz b_Mo_fewest 38 (.istore 5) 2 40 := ⟨by decide +kernel, rfl⟩
theorem d_Mo_fewest_40 : dz b_Mo_fewest 40 (.iload 5) 2 42 := ⟨by decide +kernel, rfl⟩
theorem d_Mo_fewest_42 : dz b_Mo_fewest 42 (.iconst 1) 1 43 := ⟨by decide +kernel, rfl⟩
theorem d_Mo_fewest_43 : dz b_Mo_fewest 43 (.iload_n 2) 1 44 := ⟨by decide +kernel, rfl⟩
theorem d_Mo_fewest_44 : dz b_Mo_fewest 44 (.ishl) 1 45 := ⟨by decide +kernel, rfl⟩
theorem d_Mo_fewest_45 : dj b_Mo_fewest 45 (.if_icmp .ge) 48 84 := ⟨39, by decide +kernel, rfl, by decide⟩
theorem d_Mo_fewest_48 : dz b_Mo_fewest 48 (.aload_n 0) 1 49 := ⟨by decide +kernel, rfl⟩
theorem d_Mo_fewest_49 : dz b_Mo_fewest 49 (.getfield 243) 3 52 := ⟨by decide +kernel, rfl⟩
theorem d_Mo_fewest_52 : dz b_Mo_fewest 52 (.iload 5) 2 54 := ⟨by decide +kernel, rfl⟩
theorem d_Mo_fewest_54 : dz b_Mo_fewest 54 (.iconst 1) 1 55 := ⟨by decide +kernel, rfl⟩
theorem d_Mo_fewest_55 : dz b_Mo_fewest 55 (.iload_n 2) 1 56 := ⟨by decide +kernel, rfl⟩
theorem d_Mo_fewest_56 : dz b_Mo_fewest 56 (.ishl) 1 57 := ⟨by decide +kernel, rfl⟩
theorem d_Mo_fewest_57 : dz b_Mo_fewest 57 (.ior) 1 58 := ⟨by decide +kernel, rfl⟩
theorem d_Mo_fewest_58 : dz b_Mo_fewest 58 (.iload 5) 2 60 := ⟨by decide +kernel, rfl⟩
theorem d_Mo_fewest_60 : dj b_Mo_fewest 60 (.ifCond .ne) 63 67 := ⟨7, by decide +kernel, rfl, by decide⟩
theorem d_Mo_fewest_63 : dz b_Mo_fewest 63 (.iconst 0) 1 64 := ⟨by decide +kernel, rfl⟩
theorem d_Mo_fewest_64 : dj b_Mo_fewest 64 (.goto) 67 74 := ⟨10, by decide +kernel, rfl, by decide⟩
theorem d_Mo_fewest_67 : dz b_Mo_fewest 67 (.aload_n 0) 1 68 := ⟨by decide +kernel, rfl⟩
theorem d_Mo_fewest_68 : dz b_Mo_fewest 68 (.getfield 243) 3 71 := ⟨by decide +kernel, rfl⟩
theorem d_Mo_fewest_71 : dz b_Mo_fewest 71 (.iload 5) 2 73 := ⟨by decide +kernel, rfl⟩
theorem d_Mo_fewest_73 : dz b_Mo_fewest 73 (.iaload) 1 74 := ⟨by decide +kernel, rfl⟩
theorem d_Mo_fewest_74 : dz b_Mo_fewest 74 (.iload 4) 2 76 := ⟨by decide +kernel, rfl⟩
theorem d_Mo_fewest_76 : dz b_Mo_fewest 76 (.iadd) 1 77 := ⟨by decide +kernel, rfl⟩
theorem d_Mo_fewest_77 : dz b_Mo_fewest 77 (.iastore) 1 78 := ⟨by decide +kernel, rfl⟩
theorem d_Mo_fewest_78 : dz b_Mo_fewest 78 (.iinc 5 1) 3 81 := ⟨by decide +kernel, rfl⟩
theorem d_Mo_fewest_81 : dj b_Mo_fewest 81 (.goto) 84 40 := ⟨(-41), by decide +kernel, rfl, by decide⟩
theorem d_Mo_fewest_84 : dz b_Mo_fewest 84 (.iinc 2 1) 3 87 := ⟨by decide +kernel, rfl⟩
theorem d_Mo_fewest_87 : dz b_Mo_fewest 87 (.iinc 3 1) 3 90 := ⟨by decide +kernel, rfl⟩
theorem d_Mo_fewest_90 : dj b_Mo_fewest 90 (.goto) 93 13 := ⟨(-77), by decide +kernel, rfl, by decide⟩
theorem d_Mo_fewest_93 : dz b_Mo_fewest 93 (.aload_n 0) 1 94 := ⟨by decide +kernel, rfl⟩
theorem d_Mo_fewest_94 : dz b_Mo_fewest 94 (.getfield 246) 3 97 := ⟨by decide +kernel, rfl⟩
theorem d_Mo_fewest_97 : dz b_Mo_fewest 97 (.iconst 0) 1 98 := ⟨by decide +kernel, rfl⟩
theorem d_Mo_fewest_98 : dz b_Mo_fewest 98 (.iconst 0) 1 99 := ⟨by decide +kernel, rfl⟩
theorem d_Mo_fewest_99 : dz b_Mo_fewest 99 (.iastore) 1 100 := ⟨by decide +kernel, rfl⟩
theorem d_Mo_fewest_100 : dz b_Mo_fewest 100 (.iconst 1) 1 101 := ⟨by decide +kernel, rfl⟩
theorem d_Mo_fewest_101 : dz b_Mo_fewest 101 (.istore_n 3) 1 102 := ⟨by decide +kernel, rfl⟩
theorem d_Mo_fewest_102 : dz b_Mo_fewest 102 (.iload_n 3) 1 103 := ⟨by decide +kernel, rfl⟩
theorem d_Mo_fewest_103 : dz b_Mo_fewest 103 (.iconst 1) 1 104 := ⟨by decide +kernel, rfl⟩
theorem d_Mo_fewest_104 : dz b_Mo_fewest 104 (.iload_n 2) 1 105 := ⟨by decide +kernel, rfl⟩
theorem d_Mo_fewest_105 : dz b_Mo_fewest 105 (.ishl) 1 106 := ⟨by decide +kernel, rfl⟩
theorem d_Mo_fewest_106 : dj b_Mo_fewest 106 (.if_icmp .ge) 109 195 := ⟨89, by decide +kernel, rfl, by decide⟩
theorem d_Mo_fewest_109 : dz b_Mo_fewest 109 (.iconst 0) 1 110 := ⟨by decide +kernel, rfl⟩
theorem d_Mo_fewest_110 : dz b_Mo_fewest 110 (.istore 4) 2 112 := ⟨by decide +kernel, rfl⟩
theorem d_Mo_fewest_112 : dz b_Mo_fewest 112 (.iconst 0) 1 113 := ⟨by decide +kernel, rfl⟩
theorem d_Mo_fewest_113 : dz b_Mo_fewest 113 (.istore 5) 2 115 := ⟨by decide +kernel, rfl⟩
theorem d_Mo_fewest_115 : dz b_Mo_fewest 115 (.iload 5) 2 117 := ⟨by decide +kernel, rfl⟩
theorem d_Mo_fewest_117 : dz b_Mo_fewest 117 (.iload_n 2) 1 118 := ⟨by decide +kernel, rfl⟩
theorem d_Mo_fewest_118 : dj b_Mo_fewest 118 (.if_icmp .ge) 121 166 := ⟨48, by decide +kernel, rfl, by decide⟩
theorem d_Mo_fewest_121 : dz b_Mo_fewest 121 (.iload_n 3) 1 122 := ⟨by decide +kernel, rfl⟩
theorem d_Mo_fewest_122 : dz b_Mo_fewest 122 (.iload 5) 2 124 := ⟨by decide +kernel, rfl⟩
theorem d_Mo_fewest_124 : dz b_Mo_fewest 124 (.ishr) 1 125 := ⟨by decide +kernel, rfl⟩
theorem d_Mo_fewest_125 : dz b_Mo_fewest 125 (.iconst 1) 1 126 := ⟨by decide +kernel, rfl⟩
theorem d_Mo_fewest_126 : dz b_Mo_fewest 126 (.iand) 1 127 := ⟨by decide +kernel, rfl⟩
theorem d_Mo_fewest_127 : dz b_Mo_fewest 127 (.iconst 1) 1 128 := ⟨by decide +kernel, rfl⟩
theorem d_Mo_fewest_128 : dj b_Mo_fewest 128 (.if_icmp .ne) 131 160 := ⟨32, by decide +kernel, rfl, by decide⟩
theorem d_Mo_fewest_131 : dz b_Mo_fewest 131 (.aload_n 0) 1 132 := ⟨by decide +kernel, rfl⟩
theorem d_Mo_fewest_132 : dz b_Mo_fewest 132 (.getfield 246) 3 135 := ⟨by decide +kernel, rfl⟩
theorem d_Mo_fewest_135 : dz b_Mo_fewest 135 (.iload_n 3) 1 136 := ⟨by decide +kernel, rfl⟩
theorem d_Mo_fewest_136 : dz b_Mo_fewest 136 (.iconst 1) 1 137 := ⟨by decide +kernel, rfl⟩
theorem d_Mo_fewest_137 : dz b_Mo_fewest 137 (.iload 5) 2 139 := ⟨by decide +kernel, rfl⟩
theorem d_Mo_fewest_139 : dz b_Mo_fewest 139 (.ishl) 1 140 := ⟨by decide +kernel, rfl⟩
theorem d_Mo_fewest_140 : dz b_Mo_fewest 140 (.ixor) 1 141 := ⟨by decide +kernel, rfl⟩
theorem d_Mo_fewest_141 : dz b_Mo_fewest 141 (.iaload) 1 142 := ⟨by decide +kernel, rfl⟩
theorem d_Mo_fewest_142 : dz b_Mo_fewest 142 (.iload 4) 2 144 := ⟨by decide +kernel, rfl⟩
theorem d_Mo_fewest_144 : dj b_Mo_fewest 144 (.if_icmp .le) 147 160 := ⟨16, by decide +kernel, rfl, by decide⟩
theorem d_Mo_fewest_147 : dz b_Mo_fewest 147 (.aload_n 0) 1 148 := ⟨by decide +kernel, rfl⟩
theorem d_Mo_fewest_148 : dz b_Mo_fewest 148 (.getfield 246) 3 151 := ⟨by decide +kernel, rfl⟩
theorem d_Mo_fewest_151 : dz b_Mo_fewest 151 (.iload_n 3) 1 152 := ⟨by decide +kernel, rfl⟩
theorem d_Mo_fewest_152 : dz b_Mo_fewest 152 (.iconst 1) 1 153 := ⟨by decide +kernel, rfl⟩
theorem d_Mo_fewest_153 : dz b_Mo_fewest 153 (.iload 5) 2 155 := ⟨by decide +kernel, rfl⟩
theorem d_Mo_fewest_155 : dz b_Mo_fewest 155 (.ishl) 1 156 := ⟨by decide +kernel, rfl⟩
theorem d_Mo_fewest_156 : dz b_Mo_fewest 156 (.ixor) 1 157 := ⟨by decide +kernel, rfl⟩
theorem d_Mo_fewest_157 : dz b_Mo_fewest 157 (.iaload) 1 158 := ⟨by decide +kernel, rfl⟩
theorem d_Mo_fewest_158 : dz b_Mo_fewest 158 (.istore 4) 2 160 := ⟨by decide +kernel, rfl⟩
theorem d_Mo_fewest_160 : dz b_Mo_fewest 160 (.iinc 5 1) 3 163 := ⟨by decide +kernel, rfl⟩
theorem d_Mo_fewest_163 : dj b_Mo_fewest 163 (.goto) 166 115 := ⟨(-48), by decide +kernel, rfl, by decide⟩
theorem d_Mo_fewest_166 : dz b_Mo_fewest 166 (.aload_n 0) 1 167 := ⟨by decide +kernel, rfl⟩
theorem d_Mo_fewest_167 : dz b_Mo_fewest 167 (.getfield 246) 3 170 := ⟨by decide +kernel, rfl⟩
theorem d_Mo_fewest_170 : dz b_Mo_fewest 170 (.iload_n 3) 1 171 := ⟨by decide +kernel, rfl⟩
theorem d_Mo_fewest_171 : dz b_Mo_fewest 171 (.iload 4) 2 173 := ⟨by decide +kernel, rfl⟩
theorem d_Mo_fewest_173 : dz b_Mo_fewest 173 (.aload_n 0) 1 174 := ⟨by decide +kernel, rfl⟩
theorem d_Mo_fewest_174 : dz b_Mo_fewest 174 (.getfield 243) 3 177 := ⟨by decide +kernel, rfl⟩
theorem d_Mo_fewest_177 : dz b_Mo_fewest 177 (.iload_n 3) 1 178 := ⟨by decide +kernel, rfl⟩
theorem d_Mo_fewest_178 : dz b_Mo_fewest 178 (.iaload) 1 179 := ⟨by decide +kernel, rfl⟩
theorem d_Mo_fewest_179 : dj b_Mo_fewest 179 (.ifCond .ne) 182 186 := ⟨7, by decide +kernel, rfl, by decide⟩
theorem d_Mo_fewest_182 : dz b_Mo_fewest 182 (.iconst 1) 1 183 := ⟨by decide +kernel, rfl⟩
theorem d_Mo_fewest_183 : dj b_Mo_fewest 183 (.goto) 186 187 := ⟨4, by decide +kernel, rfl, by decide⟩
theorem d_Mo_fewest_186 : dz b_Mo_fewest 186 (.iconst 0) 1 187 := ⟨by decide +kernel, rfl⟩
theorem d_Mo_fewest_187 : dz b_Mo_fewest 187 (.iadd) 1 188 := ⟨by decide +kernel, rfl⟩
theorem d_Mo_fewest_188 : dz b_Mo_fewest 188 (.iastore) 1 189 := ⟨by decide +kernel, rfl⟩
theorem d_Mo_fewest_189 : dz b_Mo_fewest 189 (.iinc 3 1) 3 192 := ⟨by decide +kernel, rfl⟩
theorem d_Mo_fewest_192 : dj b_Mo_fewest 192 (.goto) 195 102 := ⟨(-90), by decide +kernel, rfl, by decide⟩
theorem d_Mo_fewest_195 : dz b_Mo_fewest 195 (.iload_n 2) 1 196 := ⟨by decide +kernel, rfl⟩
theorem d_Mo_fewest_196 : dz b_Mo_fewest 196 (.aload_n 0) 1 197 := ⟨by decide +kernel, rfl⟩
theorem d_Mo_fewest_197 : dz b_Mo_fewest 197 (.getfield 246) 3 200 := ⟨by decide +kernel, rfl⟩
theorem d_Mo_fewest_200 : dz b_Mo_fewest 200 (.iconst 1) 1 201 := ⟨by decide +kernel, rfl⟩
theorem d_Mo_fewest_201 : dz b_Mo_fewest 201 (.iload_n 2) 1 202 := ⟨by decide +kernel, rfl⟩
theorem d_Mo_fewest_202 : dz b_Mo_fewest 202 (.ishl) 1 203 := ⟨by decide +kernel, rfl⟩
theorem d_Mo_fewest_203 : dz b_Mo_fewest 203 (.iconst 1) 1 204 := ⟨by decide +kernel, rfl⟩
theorem d_Mo_fewest_204 : dz b_Mo_fewest 204 (.isub) 1 205 := ⟨by decide +kernel, rfl⟩
theorem d_Mo_fewest_205 : dz b_Mo_fewest 205 (.iaload) 1 206 := ⟨by decide +kernel, rfl⟩
theorem d_Mo_fewest_206 : dz b_Mo_fewest 206 (.isub) 1 207 := ⟨by decide +kernel, rfl⟩
theorem d_Mo_fewest_207 : dz b_Mo_fewest 207 (.ireturn) 1 208 := ⟨by decide +kernel, rfl⟩
theorem d_Mo_about_0 : dz b_Mo_about 0 (.iload_n 1) 1 1 := ⟨by decide +kernel, rfl⟩
theorem d_Mo_about_1 : dz b_Mo_about 1 (.tableswitch 69 0 5 #[39, 44, 49, 54, 59, 64]) 39 40 := ⟨by decide +kernel, rfl⟩
theorem d_Mo_about_40 : dz b_Mo_about 40 (.aload_n 0) 1 41 := ⟨by decide +kernel, rfl⟩
theorem d_Mo_about_41 : dz b_Mo_about 41 (.getfield 1) 3 44 := ⟨by decide +kernel, rfl⟩
theorem d_Mo_about_44 : dz b_Mo_about 44 (.ireturn) 1 45 := ⟨by decide +kernel, rfl⟩
theorem d_Mo_about_45 : dz b_Mo_about 45 (.aload_n 0) 1 46 := ⟨by decide +kernel, rfl⟩
theorem d_Mo_about_46 : dz b_Mo_about 46 (.getfield 113) 3 49 := ⟨by decide +kernel, rfl⟩
theorem d_Mo_about_49 : dz b_Mo_about 49 (.ireturn) 1 50 := ⟨by decide +kernel, rfl⟩
theorem d_Mo_about_50 : dz b_Mo_about 50 (.aload_n 0) 1 51 := ⟨by decide +kernel, rfl⟩
theorem d_Mo_about_51 : dz b_Mo_about 51 (.getfield 131) 3 54 := ⟨by decide +kernel, rfl⟩
theorem d_Mo_about_54 : dz b_Mo_about 54 (.ireturn) 1 55 := ⟨by decide +kernel, rfl⟩
theorem d_Mo_about_55 : dz b_Mo_about 55 (.aload_n 0) 1 56 := ⟨by decide +kernel, rfl⟩
theorem d_Mo_about_56 : dz b_Mo_about 56 (.getfield 249) 3 59 := ⟨by decide +kernel, rfl⟩
theorem d_Mo_about_59 : dz b_Mo_about 59 (.ireturn) 1 60 := ⟨by decide +kernel, rfl⟩
theorem d_Mo_about_60 : dz b_Mo_about 60 (.aload_n 0) 1 61 := ⟨by decide +kernel, rfl⟩
theorem d_Mo_about_61 : dz b_Mo_about 61 (.getfield 253) 3 64 := ⟨by decide +kernel, rfl⟩
theorem d_Mo_about_64 : dz b_Mo_about 64 (.ireturn) 1 65 := ⟨by decide +kernel, rfl⟩
theorem d_Mo_about_65 : dz b_Mo_about 65 (.aload_n 0) 1 66 := ⟨by decide +kernel, rfl⟩
theorem d_Mo_about_66 : dz b_Mo_about 66 (.getfield 116) 3 69 := ⟨by decide +kernel, rfl⟩
theorem d_Mo_about_69 : dz b_Mo_about 69 (.ireturn) 1 70 := ⟨by decide +kernel, rfl⟩
theorem d_Mo_about_70 : dz b_Mo_about 70 (.iload_n 1) 1 71 := ⟨by decide +kernel, rfl⟩
theorem d_Mo_about_71 : dz b_Mo_about 71 (.bipush 10) 2 73 := ⟨by decide +kernel, rfl⟩
theorem d_Mo_about_73 : dj b_Mo_about 73 (.if_icmp .lt) 76 87 := ⟨14, by decide +kernel, rfl, by decide⟩
theorem d_Mo_about_76 : dz b_Mo_about 76 (.iload_n 1) 1 77 := ⟨by decide +kernel, rfl⟩
theorem d_Mo_about_77 : dz b_Mo_about 77 (.bipush 10) 2 79 := ⟨by decide +kernel, rfl⟩
theorem d_Mo_about_79 : dz b_Mo_about 79 (.aload_n 0) 1 80 := ⟨by decide +kernel, rfl⟩
theorem d_Mo_about_80 : dz b_Mo_about 80 (.getfield 113) 3 83 := ⟨by decide +kernel, rfl⟩
theorem d_Mo_about_83 : dz b_Mo_about 83 (.iadd) 1 84 := ⟨by decide +kernel, rfl⟩
theorem d_Mo_about_84 : dj b_Mo_about 84 (.if_icmp .lt) 87 91 := ⟨7, by decide +kernel, rfl, by decide⟩
theorem d_Mo_about_87 : dz b_Mo_about 87 (.iconst (-1)) 1 88 := ⟨by decide +kernel, rfl⟩
theorem d_Mo_about_88 : dj b_Mo_about 88 (.goto) 91 100 := ⟨12, by decide +kernel, rfl, by decide⟩
theorem d_Mo_about_91 : dz b_Mo_about 91 (.aload_n 0) 1 92 := ⟨by decide +kernel, rfl⟩
theorem d_Mo_about_92 : dz b_Mo_about 92 (.getfield 122) 3 95 := ⟨by decide +kernel, rfl⟩
theorem d_Mo_about_95 : dz b_Mo_about 95 (.iload_n 1) 1 96 := ⟨by decide +kernel, rfl⟩
theorem d_Mo_about_96 : dz b_Mo_about 96 (.bipush 10) 2 98 := ⟨by decide +kernel, rfl⟩
theorem d_Mo_about_98 : dz b_Mo_about 98 (.isub) 1 99 := ⟨by decide +kernel, rfl⟩
theorem d_Mo_about_99 : dz b_Mo_about 99 (.iaload) 1 100 := ⟨by decide +kernel, rfl⟩
theorem d_Mo_about_100 : dz b_Mo_about 100 (.ireturn) 1 101 := ⟨by decide +kernel, rfl⟩
theorem d_Mo_feed_0 : dz b_Mo_feed 0 (.aload_n 0) 1 1 := ⟨by decide +kernel, rfl⟩
theorem d_Mo_feed_1 : dz b_Mo_feed 1 (.getfield 116) 3 4 := ⟨by decide +kernel, rfl⟩
theorem d_Mo_feed_4 : dz b_Mo_feed 4 (.bipush 20) 2 6 := ⟨by decide +kernel, rfl⟩
theorem d_Mo_feed_6 : dz b_Mo_feed 6 (.iadd) 1 7 := ⟨by decide +kernel, rfl⟩
theorem d_Mo_feed_7 : dz b_Mo_feed 7 (.sipush 300) 3 10 := ⟨by decide +kernel, rfl⟩
theorem d_Mo_feed_10 : dj b_Mo_feed 10 (.if_icmp .le) 13 15 := ⟨5, by decide +kernel, rfl, by decide⟩
theorem d_Mo_feed_13 : dz b_Mo_feed 13 (.iconst (-1)) 1 14 := ⟨by decide +kernel, rfl⟩
theorem d_Mo_feed_14 : dz b_Mo_feed 14 (.ireturn) 1 15 := ⟨by decide +kernel, rfl⟩
theorem d_Mo_feed_15 : dz b_Mo_feed 15 (.iconst 0) 1 16 := ⟨by decide +kernel, rfl⟩
theorem d_Mo_feed_16 : dz b_Mo_feed 16 (.istore 6) 2 18 := ⟨by decide +kernel, rfl⟩
theorem d_Mo_feed_18 : dz b_Mo_feed 18 (.iload 6) 2 20 := ⟨by decide +kernel, rfl⟩
theorem d_Mo_feed_20 : dz b_Mo_feed 20 (.bipush 20) 2 22 := ⟨by decide +kernel, rfl⟩
theorem d_Mo_feed_22 : dj b_Mo_feed 22 (.if_icmp .ge) 25 105 := ⟨83, by decide +kernel, rfl, by decide⟩
theorem d_Mo_feed_25 : dz b_Mo_feed 25 (.iload 6) 2 27 := ⟨by decide +kernel, rfl⟩
theorem d_Mo_feed_27 : dz b_Mo_feed 27 (.iconst 4) 1 28 := ⟨by decide +kernel, rfl⟩
theorem d_Mo_feed_28 : dj b_Mo_feed 28 (.if_icmp .ge) 31 35 := ⟨7, by decide +kernel, rfl, by decide⟩
theorem d_Mo_feed_31 : dz b_Mo_feed 31 (.iload_n 1) 1 32 := ⟨by decide +kernel, rfl⟩
theorem d_Mo_feed_32 : dj b_Mo_feed 32 (.goto) 35 71 := ⟨39, by decide +kernel, rfl, by decide⟩
theorem d_Mo_feed_35 : dz b_Mo_feed 35 (.iload 6) 2 37 := ⟨by decide +kernel, rfl⟩
theorem d_Mo_feed_37 : dz b_Mo_feed 37 (.bipush 8) 2 39 := ⟨by decide +kernel, rfl⟩
theorem d_Mo_feed_39 : dj b_Mo_feed 39 (.if_icmp .ge) 42 46 := ⟨7, by decide +kernel, rfl, by decide⟩
theorem d_Mo_feed_42 : dz b_Mo_feed 42 (.iload_n 2) 1 43 := ⟨by decide +kernel, rfl⟩
theorem d_Mo_feed_43 : dj b_Mo_feed 43 (.goto) 46 71 := ⟨28, by decide +kernel, rfl, by decide⟩
theorem d_Mo_feed_46 : dz b_Mo_feed 46 (.iload 6) 2 48 := ⟨by decide +kernel, rfl⟩
theorem d_Mo_feed_48 : dz b_Mo_feed 48 (.bipush 12) 2 50 := ⟨by decide +kernel, rfl⟩
theorem d_Mo_feed_50 : dj b_Mo_feed 50 (.if_icmp .ge) 53 57 := ⟨7, by decide +kernel, rfl, by decide⟩
theorem d_Mo_feed_53 : dz b_Mo_feed 53 (.iload_n 3) 1 54 := ⟨by decide +kernel, rfl⟩
theorem d_Mo_feed_54 : dj b_Mo_feed 54 (.goto) 57 71 := ⟨17, by decide +kernel, rfl, by decide⟩
theorem d_Mo_feed_57 : dz b_Mo_feed 57 (.iload 6) 2 59 := ⟨by decide +kernel, rfl⟩
theorem d_Mo_feed_59 : dz b_Mo_feed 59 (.bipush 16) 2 61 := ⟨by decide +kernel, rfl⟩
theorem d_Mo_feed_61 : dj b_Mo_feed 61 (.if_icmp .ge) 64 69 := ⟨8, by decide +kernel, rfl, by decide⟩
theorem d_Mo_feed_64 : dz b_Mo_feed 64 (.iload 4) 2 66 := ⟨by decide +kernel, rfl⟩
theorem d_Mo_feed_66 : dj b_Mo_feed 66 (.goto) 69 71 := ⟨5, by decide +kernel, rfl, by decide⟩
theorem d_Mo_feed_69 : dz b_Mo_feed 69 (.iload 5) 2 71 := ⟨by decide +kernel, rfl⟩
theorem d_Mo_feed_71 : dz b_Mo_feed 71 (.istore 7) 2 73 := ⟨by decide +kernel, rfl⟩
theorem d_Mo_feed_73 : dz b_Mo_feed 73 (.aload_n 0) 1 74 := ⟨by decide +kernel, rfl⟩
theorem d_Mo_feed_74 : dz b_Mo_feed 74 (.getfield 119) 3 77 := ⟨by decide +kernel, rfl⟩
theorem d_Mo_feed_77 : dz b_Mo_feed 77 (.aload_n 0) 1 78 := ⟨by decide +kernel, rfl⟩
theorem d_Mo_feed_78 : dz b_Mo_feed 78 (.getfield 116) 3 81 := ⟨by decide +kernel, rfl⟩
theorem d_Mo_feed_81 : dz b_Mo_feed 81 (.iload 6) 2 83 := ⟨by decide +kernel, rfl⟩
theorem d_Mo_feed_83 : dz b_Mo_feed 83 (.iadd) 1 84 := ⟨by decide +kernel, rfl⟩
theorem d_Mo_feed_84 : dz b_Mo_feed 84 (.iload 7) 2 86 := ⟨by decide +kernel, rfl⟩
theorem d_Mo_feed_86 : dz b_Mo_feed 86 (.bipush 24) 2 88 := ⟨by decide +kernel, rfl⟩
theorem d_Mo_feed_88 : dz b_Mo_feed 88 (.bipush 8) 2 90 := ⟨by decide +kernel, rfl⟩
theorem d_Mo_feed_90 : dz b_Mo_feed 90 (.iload 6) 2 92 := ⟨by decide +kernel, rfl⟩
theorem d_Mo_feed_92 : dz b_Mo_feed 92 (.iconst 3) 1 93 := ⟨by decide +kernel, rfl⟩
theorem d_Mo_feed_93 : dz b_Mo_feed 93 (.iand) 1 94 := ⟨by decide +kernel, rfl⟩
theorem d_Mo_feed_94 : dz b_Mo_feed 94 (.imul) 1 95 := ⟨by decide +kernel, rfl⟩
theorem d_Mo_feed_95 : dz b_Mo_feed 95 (.isub) 1 96 := ⟨by decide +kernel, rfl⟩
theorem d_Mo_feed_96 : dz b_Mo_feed 96 (.ishr) 1 97 := ⟨by decide +kernel, rfl⟩
theorem d_Mo_feed_97 : dz b_Mo_feed 97 (.i2b) 1 98 := ⟨by decide +kernel, rfl⟩
theorem d_Mo_feed_98 : dz b_Mo_feed 98 (.bastore) 1 99 := ⟨by decide +kernel, rfl⟩
theorem d_Mo_feed_99 : dz b_Mo_feed 99 (.iinc 6 1) 3 102 := ⟨by decide +kernel, rfl⟩
theorem d_Mo_feed_102 : dj b_Mo_feed 102 (.goto) 105 18 := ⟨(-84), by decide +kernel, rfl, by decide⟩
theorem d_Mo_feed_105 : dz b_Mo_feed 105 (.aload_n 0) 1 106 := ⟨by decide +kernel, rfl⟩
theorem d_Mo_feed_106 : dz b_Mo_feed 106 (.dup) 1 107 := ⟨by decide +kernel, rfl⟩
theorem d_Mo_feed_107 : dz b_Mo_feed 107 (.getfield 116) 3 110 := ⟨by decide +kernel, rfl⟩
theorem d_Mo_feed_110 : dz b_Mo_feed 110 (.bipush 20) 2 112 := ⟨by decide +kernel, rfl⟩
theorem d_Mo_feed_112 : dz b_Mo_feed 112 (.iadd) 1 113 := ⟨by decide +kernel, rfl⟩
theorem d_Mo_feed_113 : dz b_Mo_feed 113 (.putfield 116) 3 116 := ⟨by decide +kernel, rfl⟩
theorem d_Mo_feed_116 : dz b_Mo_feed 116 (.aload_n 0) 1 117 := ⟨by decide +kernel, rfl⟩
theorem d_Mo_feed_117 : dz b_Mo_feed 117 (.getfield 116) 3 120 := ⟨by decide +kernel, rfl⟩
theorem d_Mo_feed_120 : dz b_Mo_feed 120 (.ireturn) 1 121 := ⟨by decide +kernel, rfl⟩
theorem d_Mo_end_0 : dz b_Mo_end 0 (.iload_n 1) 1 1 := ⟨by decide +kernel, rfl⟩
theorem d_Mo_end_1 : dj b_Mo_end 1 (.ifCond .lt) 4 12 := ⟨11, by decide +kernel, rfl, by decide⟩
theorem d_Mo_end_4 : dz b_Mo_end 4 (.iload_n 1) 1 5 := ⟨by decide +kernel, rfl⟩
theorem d_Mo_end_5 : dz b_Mo_end 5 (.aload_n 0) 1 6 := ⟨by decide +kernel, rfl⟩
theorem d_Mo_end_6 : dz b_Mo_end 6 (.getfield 116) 3 9 := ⟨by decide +kernel, rfl⟩
theorem d_Mo_end_9 : dj b_Mo_end 9 (.if_icmp .le) 12 14 := ⟨5, by decide +kernel, rfl, by decide⟩
theorem d_Mo_end_12 : dz b_Mo_end 12 (.iconst (-1)) 1 13 := ⟨by decide +kernel, rfl⟩
theorem d_Mo_end_13 : dz b_Mo_end 13 (.ireturn) 1 14 := ⟨by decide +kernel, rfl⟩
theorem d_Mo_end_14 : dz b_Mo_end 14 (.aload_n 0) 1 15 := ⟨by decide +kernel, rfl⟩
theorem d_Mo_end_15 : dz b_Mo_end 15 (.iload_n 1) 1 16 := ⟨by decide +kernel, rfl⟩
theorem d_Mo_end_16 : dz b_Mo_end 16 (.putfield 116) 3 19 := ⟨by decide +kernel, rfl⟩
theorem d_Mo_end_19 : dz b_Mo_end 19 (.iload_n 1) 1 20 := ⟨by decide +kernel, rfl⟩
theorem d_Mo_end_20 : dz b_Mo_end 20 (.ireturn) 1 21 := ⟨by decide +kernel, rfl⟩
end
section
theorem d_La_law_0 : dz b_La_law 0 (.new 7) 3 3 := ⟨by decide +kernel, rfl⟩
theorem d_La_law_3 : dz b_La_law 3 (.dup) 1 4 := ⟨by decide +kernel, rfl⟩
theorem d_La_law_4 : dz b_La_law 4 (.invokespecial 9) 3 7 := ⟨by decide +kernel, rfl⟩
theorem d_La_law_7 : dz b_La_law 7 (.astore_n 1) 1 8 := ⟨by decide +kernel, rfl⟩
theorem d_La_law_8 : dz b_La_law 8 (.new 10) 3 11 := ⟨by decide +kernel, rfl⟩
theorem d_La_law_11 : dz b_La_law 11 (.dup) 1 12 := ⟨by decide +kernel, rfl⟩
theorem d_La_law_12 : dz b_La_law 12 (.invokespecial 12) 3 15 := ⟨by decide +kernel, rfl⟩
theorem d_La_law_15 : dz b_La_law 15 (.astore_n 2) 1 16 := ⟨by decide +kernel, rfl⟩
theorem d_La_law_16 : dz b_La_law 16 (.iconst 0) 1 17 := ⟨by decide +kernel, rfl⟩
theorem d_La_law_17 : dz b_La_law 17 (.istore_n 3) 1 18 := ⟨by decide +kernel, rfl⟩
theorem d_La_law_18 : dz b_La_law 18 (.iload_n 3) 1 19 := ⟨by decide +kernel, rfl⟩
theorem d_La_law_19 : dz b_La_law 19 (.aload_n 0) 1 20 := ⟨by decide +kernel, rfl⟩
theorem d_La_law_20 : dz b_La_law 20 (.arraylength) 1 21 := ⟨by decide +kernel, rfl⟩
theorem d_La_law_21 : dz b_La_law 21 (.bipush 6) 2 23 := ⟨by decide +kernel, rfl⟩
theorem d_La_law_23 : dz b_La_law 23 (.isub) 1 24 := ⟨by decide +kernel, rfl⟩
theorem d_La_law_24 : dj b_La_law 24 (.if_icmp .gt) 27 947 := ⟨923, by decide +kernel, rfl, by decide⟩
theorem d_La_law_27 : dz b_La_law 27 (.aload_n 0) 1 28 := ⟨by decide +kernel, rfl⟩
theorem d_La_law_28 : dz b_La_law 28 (.iload_n 3) 1 29 := ⟨by decide +kernel, rfl⟩
theorem d_La_law_29 : dz b_La_law 29 (.iaload) 1 30 := ⟨by decide +kernel, rfl⟩
theorem d_La_law_30 : dz b_La_law 30 (.bipush 31) 2 32 := ⟨by decide +kernel, rfl⟩
theorem d_La_law_32 : dz b_La_law 32 (.iand) 1 33 := ⟨by decide +kernel, rfl⟩
theorem d_La_law_33 : dz b_La_law 33 (.tableswitch 908 0 20 #[99, 172, 235, 258, 271, 294, 317, 340, 383, 426, 495, 548, 581, 624, 657, 700, 763, 796, 829, 852, 885]) 99 132 := ⟨by decide +kernel, rfl⟩
theorem d_La_law_132 : dz b_La_law 132 (.aload_n 1) 1 133 := ⟨by decide +kernel, rfl⟩
theorem d_La_law_133 : dz b_La_law 133 (.aload_n 0) 1 134 := ⟨by decide +kernel, rfl⟩
theorem d_La_law_134 : dz b_La_law 134 (.iload_n 3) 1 135 := ⟨by decide +kernel, rfl⟩
theorem d_La_law_135 : dz b_La_law 135 (.iconst 1) 1 136 := ⟨by decide +kernel, rfl⟩
theorem d_La_law_136 : dz b_La_law 136 (.iadd) 1 137 := ⟨by decide +kernel, rfl⟩
theorem d_La_law_137 : dz b_La_law 137 (.iaload) 1 138 := ⟨by decide +kernel, rfl⟩
theorem d_La_law_138 : dz b_La_law 138 (.i2l) 1 139 := ⟨by decide +kernel, rfl⟩
theorem d_La_law_139 : dz b_La_law 139 (.bipush 32) 2 141 := ⟨by decide +kernel, rfl⟩
theorem d_La_law_141 : dz b_La_law 141 (.lshl) 1 142 := ⟨by decide +kernel, rfl⟩
theorem d_La_law_142 : dz b_La_law 142 (.aload_n 0) 1 143 := ⟨by decide +kernel, rfl⟩
theorem d_La_law_143 : dz b_La_law 143 (.iload_n 3) 1 144 := ⟨by decide +kernel, rfl⟩
theorem d_La_law_144 : dz b_La_law 144 (.iconst 2) 1 145 := ⟨by decide +kernel, rfl⟩
theorem d_La_law_145 : dz b_La_law 145 (.iadd) 1 146 := ⟨by decide +kernel, rfl⟩
theorem d_La_law_146 : dz b_La_law 146 (.iaload) 1 147 := ⟨by decide +kernel, rfl⟩
theorem d_La_law_147 : dz b_La_law 147 (.i2l) 1 148 := ⟨by decide +kernel, rfl⟩
theorem d_La_law_148 : dz b_La_law 148 (.ldc2_w 13) 3 151 := ⟨by decide +kernel, rfl⟩
theorem d_La_law_151 : dz b_La_law 151 (.land) 1 152 := ⟨by decide +kernel, rfl⟩
theorem d_La_law_152 : dz b_La_law 152 (.lor) 1 153 := ⟨by decide +kernel, rfl⟩
theorem d_La_law_153 : dz b_La_law 153 (.aload_n 0) 1 154 := ⟨by decide +kernel, rfl⟩
theorem d_La_law_154 : dz b_La_law 154 (.iload_n 3) 1 155 := ⟨by decide +kernel, rfl⟩
theorem d_La_law_155 : dz b_La_law 155 (.iconst 3) 1 156 := ⟨by decide +kernel, rfl⟩
theorem d_La_law_156 : dz b_La_law 156 (.iadd) 1 157 := ⟨by decide +kernel, rfl⟩
theorem d_La_law_157 : dz b_La_law 157 (.iaload) 1 158 := ⟨by decide +kernel, rfl⟩
theorem d_La_law_158 : dz b_La_law 158 (.aload_n 0) 1 159 := ⟨by decide +kernel, rfl⟩
theorem d_La_law_159 : dz b_La_law 159 (.iload_n 3) 1 160 := ⟨by decide +kernel, rfl⟩
theorem d_La_law_160 : dz b_La_law 160 (.iconst 4) 1 161 := ⟨by decide +kernel, rfl⟩
theorem d_La_law_161 : dz b_La_law 161 (.iadd) 1 162 := ⟨by decide +kernel, rfl⟩
theorem d_La_law_162 : dz b_La_law 162 (.iaload) 1 163 := ⟨by decide +kernel, rfl⟩
theorem d_La_law_163 : dz b_La_law 163 (.invokevirtual 15) 3 166 := ⟨by decide +kernel, rfl⟩
theorem d_La_law_166 : dz b_La_law 166 (.aload_n 2) 1 167 := ⟨by decide +kernel, rfl⟩
theorem d_La_law_167 : dz b_La_law 167 (.aload_n 0) 1 168 := ⟨by decide +kernel, rfl⟩
theorem d_La_law_168 : dz b_La_law 168 (.iload_n 3) 1 169 := ⟨by decide +kernel, rfl⟩
theorem d_La_law_169 : dz b_La_law 169 (.iconst 1) 1 170 := ⟨by decide +kernel, rfl⟩
theorem d_La_law_170 : dz b_La_law 170 (.iadd) 1 171 := ⟨by decide +kernel, rfl⟩
theorem d_La_law_171 : dz b_La_law 171 (.iaload) 1 172 := ⟨by decide +kernel, rfl⟩
theorem d_La_law_172 : dz b_La_law 172 (.i2l) 1 173 := ⟨by decide +kernel, rfl⟩
theorem d_La_law_173 : dz b_La_law 173 (.bipush 32) 2 175 := ⟨by decide +kernel, rfl⟩
theorem d_La_law_175 : dz b_La_law 175 (.lshl) 1 176 := ⟨by decide +kernel, rfl⟩
theorem d_La_law_176 : dz b_La_law 176 (.aload_n 0) 1 177 := ⟨by decide +kernel, rfl⟩
theorem d_La_law_177 : dz b_La_law 177 (.iload_n 3) 1 178 := ⟨by decide +kernel, rfl⟩
theorem d_La_law_178 : dz b_La_law 178 (.iconst 2) 1 179 := ⟨by decide +kernel, rfl⟩
theorem d_La_law_179 : dz b_La_law 179 (.iadd) 1 180 := ⟨by decide +kernel, rfl⟩
theorem d_La_law_180 : dz b_La_law 180 (.iaload) 1 181 := ⟨by decide +kernel, rfl⟩
theorem d_La_law_181 : dz b_La_law 181 (.i2l) 1 182 := ⟨by decide +kernel, rfl⟩
theorem d_La_law_182 : dz b_La_law 182 (.ldc2_w 13) 3 185 := ⟨by decide +kernel, rfl⟩
theorem d_La_law_185 : dz b_La_law 185 (.land) 1 186 := ⟨by decide +kernel, rfl⟩
theorem d_La_law_186 : dz b_La_law 186 (.lor) 1 187 := ⟨by decide +kernel, rfl⟩
theorem d_La_law_187 : dz b_La_law 187 (.aload_n 0) 1 188 := ⟨by decide +kernel, rfl⟩
theorem d_La_law_188 : dz b_La_law 188 (.iload_n 3) 1 189 := ⟨by decide +kernel, rfl⟩
theorem d_La_law_189 : dz b_La_law 189 (.iconst 3) 1 190 := ⟨by decide +kernel, rfl⟩
theorem d_La_law_190 : dz b_La_law 190 (.iadd) 1 191 := ⟨by decide +kernel, rfl⟩
theorem d_La_law_191 : dz b_La_law 191 (.iaload) 1 192 := ⟨by decide +kernel, rfl⟩
theorem d_La_law_192 : dz b_La_law 192 (.aload_n 0) 1 193 := ⟨by decide +kernel, rfl⟩
theorem d_La_law_193 : dz b_La_law 193 (.iload_n 3) 1 194 := ⟨by decide +kernel, rfl⟩
theorem d_La_law_194 : dz b_La_law 194 (.iconst 4) 1 195 := ⟨by decide +kernel, rfl⟩
theorem d_La_law_195 : dz b_La_law 195 (.iadd) 1 196 := ⟨by decide +kernel, rfl⟩
theorem d_La_law_196 : dz b_La_law 196 (.iaload) 1 197 := ⟨by decide +kernel, rfl⟩
theorem d_La_law_197 : dz b_La_law 197 (.invokevirtual 19) 3 200 := ⟨by decide +kernel, rfl⟩
theorem d_La_law_200 : dj b_La_law 200 (.if_icmp .eq) 203 941 := ⟨741, by decide +kernel, rfl, by decide⟩
theorem d_La_law_203 : dz b_La_law 203 (.iconst 0) 1 204 := ⟨by decide +kernel, rfl⟩
theorem d_La_law_204 : dz b_La_law 204 (.ireturn) 1 205 := ⟨by decide +kernel, rfl⟩
theorem d_La_law_205 : dz b_La_law 205 (.aload_n 1) 1 206 := ⟨by decide +kernel, rfl⟩
theorem d_La_law_206 : dz b_La_law 206 (.aload_n 0) 1 207 := ⟨by decide +kernel, rfl⟩
theorem d_La_law_207 : dz b_La_law 207 (.iload_n 3) 1 208 := ⟨by decide +kernel, rfl⟩
theorem d_La_law_208 : dz b_La_law 208 (.iconst 1) 1 209 := ⟨by decide +kernel, rfl⟩
theorem d_La_law_209 : dz b_La_law 209 (.iadd) 1 210 := ⟨by decide +kernel, rfl⟩
theorem d_La_law_210 : dz b_La_law 210 (.iaload) 1 211 := ⟨by decide +kernel, rfl⟩
theorem d_La_law_211 : dz b_La_law 211 (.aload_n 0) 1 212 := ⟨by decide +kernel, rfl⟩
theorem d_La_law_212 : dz b_La_law 212 (.iload_n 3) 1 213 := ⟨by decide +kernel, rfl⟩
theorem d_La_law_213 : dz b_La_law 213 (.iconst 2) 1 214 := ⟨by decide +kernel, rfl⟩
theorem d_La_law_214 : dz b_La_law 214 (.iadd) 1 215 := ⟨by decide +kernel, rfl⟩
theorem d_La_law_215 : dz b_La_law 215 (.iaload) 1 216 := ⟨by decide +kernel, rfl⟩
theorem d_La_law_216 : dz b_La_law 216 (.aload_n 0) 1 217 := ⟨by decide +kernel, rfl⟩
theorem d_La_law_217 : dz b_La_law 217 (.iload_n 3) 1 218 := ⟨by decide +kernel, rfl⟩
theorem d_La_law_218 : dz b_La_law 218 (.iconst 3) 1 219 := ⟨by decide +kernel, rfl⟩
theorem d_La_law_219 : dz b_La_law 219 (.iadd) 1 220 := ⟨by decide +kernel, rfl⟩
theorem d_La_law_220 : dz b_La_law 220 (.iaload) 1 221 := ⟨by decide +kernel, rfl⟩
theorem d_La_law_221 : dz b_La_law 221 (.aload_n 0) 1 222 := ⟨by decide +kernel, rfl⟩
theorem d_La_law_222 : dz b_La_law 222 (.iload_n 3) 1 223 := ⟨by decide +kernel, rfl⟩
theorem d_La_law_223 : dz b_La_law 223 (.iconst 4) 1 224 := ⟨by decide +kernel, rfl⟩
theorem d_La_law_224 : dz b_La_law 224 (.iadd) 1 225 := ⟨by decide +kernel, rfl⟩
theorem d_La_law_225 : dz b_La_law 225 (.iaload) 1 226 := ⟨by decide +kernel, rfl⟩
theorem d_La_law_226 : dz b_La_law 226 (.aload_n 0) 1 227 := ⟨by decide +kernel, rfl⟩
theorem d_La_law_227 : dz b_La_law 227 (.iload_n 3) 1 228 := ⟨by decide +kernel, rfl⟩
theorem d_La_law_228 : dz b_La_law 228 (.iconst 5) 1 229 := ⟨by decide +kernel, rfl⟩
theorem d_La_law_229 : dz b_La_law 229 (.iadd) 1 230 := ⟨by decide +kernel, rfl⟩
theorem d_La_law_230 : dz b_La_law 230 (.iaload) 1 231 := ⟨by decide +kernel, rfl⟩
theorem d_La_law_231 : dz b_La_law 231 (.invokevirtual 20) 3 234 := ⟨by decide +kernel, rfl⟩
theorem d_La_law_234 : dz b_La_law 234 (.aload_n 2) 1 235 := ⟨by decide +kernel, rfl⟩
theorem d_La_law_235 : dz b_La_law 235 (.aload_n 0) 1 236 := ⟨by decide +kernel, rfl⟩
theorem d_La_law_236 : dz b_La_law 236 (.iload_n 3) 1 237 := ⟨by decide +kernel, rfl⟩
theorem d_La_law_237 : dz b_La_law 237 (.iconst 1) 1 238 := ⟨by decide +kernel, rfl⟩
theorem d_La_law_238 : dz b_La_law 238 (.iadd) 1 239 := ⟨by decide +kernel, rfl⟩
theorem d_La_law_239 : dz b_La_law 239 (.iaload) 1 240 := ⟨by decide +kernel, rfl⟩
theorem d_La_law_240 : dz b_La_law 240 (.aload_n 0) 1 241 := ⟨by decide +kernel, rfl⟩
theorem d_La_law_241 : dz b_La_law 241 (.iload_n 3) 1 242 := ⟨by decide +kernel, rfl⟩
theorem d_La_law_242 : dz b_La_law 242 (.iconst 2) 1 243 := ⟨by decide +kernel, rfl⟩
theorem d_La_law_243 : dz b_La_law 243 (.iadd) 1 244 := ⟨by decide +kernel, rfl⟩
theorem d_La_law_244 : dz b_La_law 244 (.iaload) 1 245 := ⟨by decide +kernel, rfl⟩
theorem d_La_law_245 : dz b_La_law 245 (.aload_n 0) 1 246 := ⟨by decide +kernel, rfl⟩
theorem d_La_law_246 : dz b_La_law 246 (.iload_n 3) 1 247 := ⟨by decide +kernel, rfl⟩
theorem d_La_law_247 : dz b_La_law 247 (.iconst 3) 1 248 := ⟨by decide +kernel, rfl⟩
theorem d_La_law_248 : dz b_La_law 248 (.iadd) 1 249 := ⟨by decide +kernel, rfl⟩
theorem d_La_law_249 : dz b_La_law 249 (.iaload) 1 250 := ⟨by decide +kernel, rfl⟩
theorem d_La_law_250 : dz b_La_law 250 (.aload_n 0) 1 251 := ⟨by decide +kernel, rfl⟩
theorem d_La_law_251 : dz b_La_law 251 (.iload_n 3) 1 252 := ⟨by decide +kernel, rfl⟩
theorem d_La_law_252 : dz b_La_law 252 (.iconst 4) 1 253 := ⟨by decide +kernel, rfl⟩
theorem d_La_law_253 : dz b_La_law 253 (.iadd) 1 254 := ⟨by decide +kernel, rfl⟩
theorem d_La_law_254 : dz b_La_law 254 (.iaload) 1 255 := ⟨by decide +kernel, rfl⟩
theorem d_La_law_255 : dz b_La_law 255 (.aload_n 0) 1 256 := ⟨by decide +kernel, rfl⟩
theorem d_La_law_256 : dz b_La_law 256 (.iload_n 3) 1 257 := ⟨by decide +kernel, rfl⟩
theorem d_La_law_257 : dz b_La_law 257 (.iconst 5) 1 258 := ⟨by decide +kernel, rfl⟩
theorem d_La_law_258 : dz b_La_law 258 (.iadd) 1 259 := ⟨by decide +kernel, rfl⟩
theorem d_La_law_259 : dz b_La_law 259 (.iaload) 1 260 := ⟨by decide +kernel, rfl⟩
theorem d_La_law_260 : dz b_La_law 260 (.invokevirtual 24) 3 263 := ⟨by decide +kernel, rfl⟩
theorem d_La_law_263 : dj b_La_law 263 (.if_icmp .eq) 266 941 := ⟨678, by decide +kernel, rfl, by decide⟩
theorem d_La_law_266 : dz b_La_law 266 (.iconst 0) 1 267 := ⟨by decide +kernel, rfl⟩
theorem d_La_law_267 : dz b_La_law 267 (.ireturn) 1 268 := ⟨by decide +kernel, rfl⟩
theorem d_La_law_268 : dz b_La_law 268 (.aload_n 1) 1 269 := ⟨by decide +kernel, rfl⟩
theorem d_La_law_269 : dz b_La_law 269 (.aload_n 0) 1 270 := ⟨by decide +kernel, rfl⟩
theorem d_La_law_270 : dz b_La_law 270 (.iload_n 3) 1 271 := ⟨by decide +kernel, rfl⟩
theorem d_La_law_271 : dz b_La_law 271 (.iconst 1) 1 272 := ⟨by decide +kernel, rfl⟩
theorem d_La_law_272 : dz b_La_law 272 (.iadd) 1 273 := ⟨by decide +kernel, rfl⟩
theorem d_La_law_273 : dz b_La_law 273 (.iaload) 1 274 := ⟨by decide +kernel, rfl⟩
theorem d_La_law_274 : dz b_La_law 274 (.invokevirtual 25) 3 277 := ⟨by decide +kernel, rfl⟩
theorem d_La_law_277 : dz b_La_law 277 (.aload_n 2) 1 278 := ⟨by decide +kernel, rfl⟩
theorem d_La_law_278 : dz b_La_law 278 (.aload_n 0) 1 279 := ⟨by decide +kernel, rfl⟩
theorem d_La_law_279 : dz b_La_law 279 (.iload_n 3) 1 280 := ⟨by decide +kernel, rfl⟩
theorem d_La_law_280 : dz b_La_law 280 (.iconst 1) 1 281 := ⟨by decide +kernel, rfl⟩
theorem d_La_law_281 : dz b_La_law 281 (.iadd) 1 282 := ⟨by decide +kernel, rfl⟩
theorem d_La_law_282 : dz b_La_law 282 (.iaload) 1 283 := ⟨by decide +kernel, rfl⟩
theorem d_La_law_283 : dz b_La_law 283 (.invokevirtual 29) 3 286 := ⟨by decide +kernel, rfl⟩
theorem d_La_law_286 : dj b_La_law 286 (.if_icmp .eq) 289 941 := ⟨655, by decide +kernel, rfl, by decide⟩
theorem d_La_law_289 : dz b_La_law 289 (.iconst 0) 1 290 := ⟨by decide +kernel, rfl⟩
theorem d_La_law_290 : dz b_La_law 290 (.ireturn) 1 291 := ⟨by decide +kernel, rfl⟩
theorem d_La_law_291 : dz b_La_law 291 (.aload_n 1) 1 292 := ⟨by decide +kernel, rfl⟩
theorem d_La_law_292 : dz b_La_law 292 (.invokevirtual 30) 3 295 := ⟨by decide +kernel, rfl⟩
theorem d_La_law_295 : dz b_La_law 295 (.aload_n 2) 1 296 := ⟨by decide +kernel, rfl⟩
theorem d_La_law_296 : dz b_La_law 296 (.invokevirtual 34) 3 299 := ⟨by decide +kernel, rfl⟩
theorem d_La_law_299 : dj b_La_law 299 (.if_icmp .eq) 302 941 := ⟨642, by decide +kernel, rfl, by decide⟩
theorem d_La_law_302 : dz b_La_law 302 (.iconst 0) 1 303 := ⟨by decide +kernel, rfl⟩
theorem d_La_law_303 : dz b_La_law 303 (.ireturn) 1 304 := ⟨by decide +kernel, rfl⟩
theorem d_La_law_304 : dz b_La_law 304 (.aload_n 1) 1 305 := ⟨by decide +kernel, rfl⟩
theorem d_La_law_305 : dz b_La_law 305 (.aload_n 0) 1 306 := ⟨by decide +kernel, rfl⟩
theorem d_La_law_306 : dz b_La_law 306 (.iload_n 3) 1 307 := ⟨by decide +kernel, rfl⟩
theorem d_La_law_307 : dz b_La_law 307 (.iconst 1) 1 308 := ⟨by decide +kernel, rfl⟩
theorem d_La_law_308 : dz b_La_law 308 (.iadd) 1 309 := ⟨by decide +kernel, rfl⟩
theorem d_La_law_309 : dz b_La_law 309 (.iaload) 1 310 := ⟨by decide +kernel, rfl⟩
theorem d_La_law_310 : dz b_La_law 310 (.invokevirtual 35) 3 313 := ⟨by decide +kernel, rfl⟩
theorem d_La_law_313 : dz b_La_law 313 (.aload_n 2) 1 314 := ⟨by decide +kernel, rfl⟩
theorem d_La_law_314 : dz b_La_law 314 (.aload_n 0) 1 315 := ⟨by decide +kernel, rfl⟩
theorem d_La_law_315 : dz b_La_law 315 (.iload_n 3) 1 316 := ⟨by decide +kernel, rfl⟩
theorem d_La_law_316 : dz b_La_law 316 (.iconst 1) 1 317 := ⟨by decide +kernel, rfl⟩
theorem d_La_law_317 : dz b_La_law 317 (.iadd) 1 318 := ⟨by decide +kernel, rfl⟩
theorem d_La_law_318 : dz b_La_law 318 (.iaload) 1 319 := ⟨by decide +kernel, rfl⟩
theorem d_La_law_319 : dz b_La_law 319 (.invokevirtual 38) 3 322 := ⟨by decide +kernel, rfl⟩
theorem d_La_law_322 : dj b_La_law 322 (.if_icmp .eq) 325 941 := ⟨619, by decide +kernel, rfl, by decide⟩
theorem d_La_law_325 : dz b_La_law 325 (.iconst 0) 1 326 := ⟨by decide +kernel, rfl⟩
theorem d_La_law_326 : dz b_La_law 326 (.ireturn) 1 327 := ⟨by decide +kernel, rfl⟩
theorem d_La_law_327 : dz b_La_law 327 (.aload_n 1) 1 328 := ⟨by decide +kernel, rfl⟩
theorem d_La_law_328 : dz b_La_law 328 (.aload_n 0) 1 329 := ⟨by decide +kernel, rfl⟩
theorem d_La_law_329 : dz b_La_law 329 (.iload_n 3) 1 330 := ⟨by decide +kernel, rfl⟩
theorem d_La_law_330 : dz b_La_law 330 (.iconst 1) 1 331 := ⟨by decide +kernel, rfl⟩
theorem d_La_law_331 : dz b_La_law 331 (.iadd) 1 332 := ⟨by decide +kernel, rfl⟩
theorem d_La_law_332 : dz b_La_law 332 (.iaload) 1 333 := ⟨by decide +kernel, rfl⟩
theorem d_La_law_333 : dz b_La_law 333 (.invokevirtual 39) 3 336 := ⟨by decide +kernel, rfl⟩
theorem d_La_law_336 : dz b_La_law 336 (.aload_n 2) 1 337 := ⟨by decide +kernel, rfl⟩
theorem d_La_law_337 : dz b_La_law 337 (.aload_n 0) 1 338 := ⟨by decide +kernel, rfl⟩
theorem d_La_law_338 : dz b_La_law 338 (.iload_n 3) 1 339 := ⟨by decide +kernel, rfl⟩
theorem d_La_law_339 : dz b_La_law 339 (.iconst 1) 1 340 := ⟨by decide +kernel, rfl⟩
theorem d_La_law_340 : dz b_La_law 340 (.iadd) 1 341 := ⟨by decide +kernel, rfl⟩
theorem d_La_law_341 : dz b_La_law 341 (.iaload) 1 342 := ⟨by decide +kernel, rfl⟩
theorem d_La_law_342 : dz b_La_law 342 (.invokevirtual 43) 3 345 := ⟨by decide +kernel, rfl⟩
theorem d_La_law_345 : dj b_La_law 345 (.if_icmp .eq) 348 941 := ⟨596, by decide +kernel, rfl, by decide⟩
theorem d_La_law_348 : dz b_La_law 348 (.iconst 0) 1 349 := ⟨by decide +kernel, rfl⟩
theorem d_La_law_349 : dz b_La_law 349 (.ireturn) 1 350 := ⟨by decide +kernel, rfl⟩
theorem d_La_law_350 : dz b_La_law 350 (.aload_n 1) 1 351 := ⟨by decide +kernel, rfl⟩
theorem d_La_law_351 : dz b_La_law 351 (.aload_n 0) 1 352 := ⟨by decide +kernel, rfl⟩
theorem d_La_law_352 : dz b_La_law 352 (.iload_n 3) 1 353 := ⟨by decide +kernel, rfl⟩
theorem d_La_law_353 : dz b_La_law 353 (.iconst 1) 1 354 := ⟨by decide +kernel, rfl⟩
theorem d_La_law_354 : dz b_La_law 354 (.iadd) 1 355 := ⟨by decide +kernel, rfl⟩
theorem d_La_law_355 : dz b_La_law 355 (.iaload) 1 356 := ⟨by decide +kernel, rfl⟩
theorem d_La_law_356 : dz b_La_law 356 (.invokevirtual 44) 3 359 := ⟨by decide +kernel, rfl⟩
theorem d_La_law_359 : dz b_La_law 359 (.aload_n 2) 1 360 := ⟨by decide +kernel, rfl⟩
theorem d_La_law_360 : dz b_La_law 360 (.aload_n 0) 1 361 := ⟨by decide +kernel, rfl⟩
theorem d_La_law_361 : dz b_La_law 361 (.iload_n 3) 1 362 := ⟨by decide +kernel, rfl⟩
theorem d_La_law_362 : dz b_La_law 362 (.iconst 1) 1 363 := ⟨by decide +kernel, rfl⟩
theorem d_La_law_363 : dz b_La_law 363 (.iadd) 1 364 := ⟨by decide +kernel, rfl⟩
theorem d_La_law_364 : dz b_La_law 364 (.iaload) 1 365 := ⟨by decide +kernel, rfl⟩
theorem d_La_law_365 : dz b_La_law 365 (.invokevirtual 47) 3 368 := ⟨by decide +kernel, rfl⟩
theorem d_La_law_368 : dj b_La_law 368 (.if_icmp .eq) 371 941 := ⟨573, by decide +kernel, rfl, by decide⟩
theorem d_La_law_371 : dz b_La_law 371 (.iconst 0) 1 372 := ⟨by decide +kernel, rfl⟩
theorem d_La_law_372 : dz b_La_law 372 (.ireturn) 1 373 := ⟨by decide +kernel, rfl⟩
theorem d_La_law_373 : dz b_La_law 373 (.aload_n 1) 1 374 := ⟨by decide +kernel, rfl⟩
theorem d_La_law_374 : dz b_La_law 374 (.aload_n 0) 1 375 := ⟨by decide +kernel, rfl⟩
theorem d_La_law_375 : dz b_La_law 375 (.iload_n 3) 1 376 := ⟨by decide +kernel, rfl⟩
theorem d_La_law_376 : dz b_La_law 376 (.iconst 1) 1 377 := ⟨by decide +kernel, rfl⟩
theorem d_La_law_377 : dz b_La_law 377 (.iadd) 1 378 := ⟨by decide +kernel, rfl⟩
theorem d_La_law_378 : dz b_La_law 378 (.iaload) 1 379 := ⟨by decide +kernel, rfl⟩
theorem d_La_law_379 : dz b_La_law 379 (.aload_n 0) 1 380 := ⟨by decide +kernel, rfl⟩
theorem d_La_law_380 : dz b_La_law 380 (.iload_n 3) 1 381 := ⟨by decide +kernel, rfl⟩
theorem d_La_law_381 : dz b_La_law 381 (.iconst 2) 1 382 := ⟨by decide +kernel, rfl⟩
theorem d_La_law_382 : dz b_La_law 382 (.iadd) 1 383 := ⟨by decide +kernel, rfl⟩
theorem d_La_law_383 : dz b_La_law 383 (.iaload) 1 384 := ⟨by decide +kernel, rfl⟩
theorem d_La_law_384 : dz b_La_law 384 (.aload_n 0) 1 385 := ⟨by decide +kernel, rfl⟩
theorem d_La_law_385 : dz b_La_law 385 (.iload_n 3) 1 386 := ⟨by decide +kernel, rfl⟩
theorem d_La_law_386 : dz b_La_law 386 (.iconst 3) 1 387 := ⟨by decide +kernel, rfl⟩
theorem d_La_law_387 : dz b_La_law 387 (.iadd) 1 388 := ⟨by decide +kernel, rfl⟩
theorem d_La_law_388 : dz b_La_law 388 (.iaload) 1 389 := ⟨by decide +kernel, rfl⟩
theorem d_La_law_389 : dz b_La_law 389 (.invokevirtual 48) 3 392 := ⟨by decide +kernel, rfl⟩
theorem d_La_law_392 : dz b_La_law 392 (.aload_n 2) 1 393 := ⟨by decide +kernel, rfl⟩
theorem d_La_law_393 : dz b_La_law 393 (.aload_n 0) 1 394 := ⟨by decide +kernel, rfl⟩
theorem d_La_law_394 : dz b_La_law 394 (.iload_n 3) 1 395 := ⟨by decide +kernel, rfl⟩
theorem d_La_law_395 : dz b_La_law 395 (.iconst 1) 1 396 := ⟨by decide +kernel, rfl⟩
theorem d_La_law_396 : dz b_La_law 396 (.iadd) 1 397 := ⟨by decide +kernel, rfl⟩
theorem d_La_law_397 : dz b_La_law 397 (.iaload) 1 398 := ⟨by decide +kernel, rfl⟩
theorem d_La_law_398 : dz b_La_law 398 (.aload_n 0) 1 399 := ⟨by decide +kernel, rfl⟩
theorem d_La_law_399 : dz b_La_law 399 (.iload_n 3) 1 400 := ⟨by decide +kernel, rfl⟩
theorem d_La_law_400 : dz b_La_law 400 (.iconst 2) 1 401 := ⟨by decide +kernel, rfl⟩
theorem d_La_law_401 : dz b_La_law 401 (.iadd) 1 402 := ⟨by decide +kernel, rfl⟩
theorem d_La_law_402 : dz b_La_law 402 (.iaload) 1 403 := ⟨by decide +kernel, rfl⟩
theorem d_La_law_403 : dz b_La_law 403 (.aload_n 0) 1 404 := ⟨by decide +kernel, rfl⟩
theorem d_La_law_404 : dz b_La_law 404 (.iload_n 3) 1 405 := ⟨by decide +kernel, rfl⟩
theorem d_La_law_405 : dz b_La_law 405 (.iconst 3) 1 406 := ⟨by decide +kernel, rfl⟩
theorem d_La_law_406 : dz b_La_law 406 (.iadd) 1 407 := ⟨by decide +kernel, rfl⟩
theorem d_La_law_407 : dz b_La_law 407 (.iaload) 1 408 := ⟨by decide +kernel, rfl⟩
theorem d_La_law_408 : dz b_La_law 408 (.invokevirtual 52) 3 411 := ⟨by decide +kernel, rfl⟩
theorem d_La_law_411 : dj b_La_law 411 (.if_icmp .eq) 414 941 := ⟨530, by decide +kernel, rfl, by decide⟩
theorem d_La_law_414 : dz b_La_law 414 (.iconst 0) 1 415 := ⟨by decide +kernel, rfl⟩
theorem d_La_law_415 : dz b_La_law 415 (.ireturn) 1 416 := ⟨by decide +kernel, rfl⟩
theorem d_La_law_416 : dz b_La_law 416 (.aload_n 1) 1 417 := ⟨by decide +kernel, rfl⟩
theorem d_La_law_417 : dz b_La_law 417 (.aload_n 0) 1 418 := ⟨by decide +kernel, rfl⟩
theorem d_La_law_418 : dz b_La_law 418 (.iload_n 3) 1 419 := ⟨by decide +kernel, rfl⟩
theorem d_La_law_419 : dz b_La_law 419 (.iconst 1) 1 420 := ⟨by decide +kernel, rfl⟩
theorem d_La_law_420 : dz b_La_law 420 (.iadd) 1 421 := ⟨by decide +kernel, rfl⟩
theorem d_La_law_421 : dz b_La_law 421 (.iaload) 1 422 := ⟨by decide +kernel, rfl⟩
theorem d_La_law_422 : dz b_La_law 422 (.aload_n 0) 1 423 := ⟨by decide +kernel, rfl⟩
theorem d_La_law_423 : dz b_La_law 423 (.iload_n 3) 1 424 := ⟨by decide +kernel, rfl⟩
theorem d_La_law_424 : dz b_La_law 424 (.iconst 2) 1 425 := ⟨by decide +kernel, rfl⟩
theorem d_La_law_425 : dz b_La_law 425 (.iadd) 1 426 := ⟨by decide +kernel, rfl⟩
theorem d_La_law_426 : dz b_La_law 426 (.iaload) 1 427 := ⟨by decide +kernel, rfl⟩
theorem d_La_law_427 : dz b_La_law 427 (.aload_n 0) 1 428 := ⟨by decide +kernel, rfl⟩
theorem d_La_law_428 : dz b_La_law 428 (.iload_n 3) 1 429 := ⟨by decide +kernel, rfl⟩
theorem d_La_law_429 : dz b_La_law 429 (.iconst 3) 1 430 := ⟨by decide +kernel, rfl⟩
theorem d_La_law_430 : dz b_La_law 430 (.iadd) 1 431 := ⟨by decide +kernel, rfl⟩
theorem d_La_law_431 : dz b_La_law 431 (.iaload) 1 432 := ⟨by decide +kernel, rfl⟩
theorem d_La_law_432 : dz b_La_law 432 (.invokevirtual 53) 3 435 := ⟨by decide +kernel, rfl⟩
theorem d_La_law_435 : dz b_La_law 435 (.aload_n 2) 1 436 := ⟨by decide +kernel, rfl⟩
theorem d_La_law_436 : dz b_La_law 436 (.aload_n 0) 1 437 := ⟨by decide +kernel, rfl⟩
theorem d_La_law_437 : dz b_La_law 437 (.iload_n 3) 1 438 := ⟨by decide +kernel, rfl⟩
theorem d_La_law_438 : dz b_La_law 438 (.iconst 1) 1 439 := ⟨by decide +kernel, rfl⟩
theorem d_La_law_439 : dz b_La_law 439 (.iadd) 1 440 := ⟨by decide +kernel, rfl⟩
theorem d_La_law_440 : dz b_La_law 440 (.iaload) 1 441 := ⟨by decide +kernel, rfl⟩
theorem d_La_law_441 : dz b_La_law 441 (.aload_n 0) 1 442 := ⟨by decide +kernel, rfl⟩
theorem d_La_law_442 : dz b_La_law 442 (.iload_n 3) 1 443 := ⟨by decide +kernel, rfl⟩
theorem d_La_law_443 : dz b_La_law 443 (.iconst 2) 1 444 := ⟨by decide +kernel, rfl⟩
theorem d_La_law_444 : dz b_La_law 444 (.iadd) 1 445 := ⟨by decide +kernel, rfl⟩
theorem d_La_law_445 : dz b_La_law 445 (.iaload) 1 446 := ⟨by decide +kernel, rfl⟩
theorem d_La_law_446 : dz b_La_law 446 (.aload_n 0) 1 447 := ⟨by decide +kernel, rfl⟩
theorem d_La_law_447 : dz b_La_law 447 (.iload_n 3) 1 448 := ⟨by decide +kernel, rfl⟩
theorem d_La_law_448 : dz b_La_law 448 (.iconst 3) 1 449 := ⟨by decide +kernel, rfl⟩
theorem d_La_law_449 : dz b_La_law 449 (.iadd) 1 450 := ⟨by decide +kernel, rfl⟩
theorem d_La_law_450 : dz b_La_law 450 (.iaload) 1 451 := ⟨by decide +kernel, rfl⟩
theorem d_La_law_451 : dz b_La_law 451 (.invokevirtual 56) 3 454 := ⟨by decide +kernel, rfl⟩
theorem d_La_law_454 : dj b_La_law 454 (.if_icmp .eq) 457 941 := ⟨487, by decide +kernel, rfl, by decide⟩
theorem d_La_law_457 : dz b_La_law 457 (.iconst 0) 1 458 := ⟨by decide +kernel, rfl⟩
theorem d_La_law_458 : dz b_La_law 458 (.ireturn) 1 459 := ⟨by decide +kernel, rfl⟩
theorem d_La_law_459 : dz b_La_law 459 (.aload_n 1) 1 460 := ⟨by decide +kernel, rfl⟩
theorem d_La_law_460 : dz b_La_law 460 (.aload_n 0) 1 461 := ⟨by decide +kernel, rfl⟩
theorem d_La_law_461 : dz b_La_law 461 (.iload_n 3) 1 462 := ⟨by decide +kernel, rfl⟩
theorem d_La_law_462 : dz b_La_law 462 (.iconst 1) 1 463 := ⟨by decide +kernel, rfl⟩
theorem d_La_law_463 : dz b_La_law 463 (.iadd) 1 464 := ⟨by decide +kernel, rfl⟩
theorem d_La_law_464 : dz b_La_law 464 (.iaload) 1 465 := ⟨by decide +kernel, rfl⟩
theorem d_La_law_465 : dz b_La_law 465 (.aload_n 0) 1 466 := ⟨by decide +kernel, rfl⟩
theorem d_La_law_466 : dz b_La_law 466 (.iload_n 3) 1 467 := ⟨by decide +kernel, rfl⟩
theorem d_La_law_467 : dz b_La_law 467 (.iconst 2) 1 468 := ⟨by decide +kernel, rfl⟩
theorem d_La_law_468 : dz b_La_law 468 (.iadd) 1 469 := ⟨by decide +kernel, rfl⟩
theorem d_La_law_469 : dz b_La_law 469 (.iaload) 1 470 := ⟨by decide +kernel, rfl⟩
theorem d_La_law_470 : dz b_La_law 470 (.aload_n 0) 1 471 := ⟨by decide +kernel, rfl⟩
theorem d_La_law_471 : dz b_La_law 471 (.iload_n 3) 1 472 := ⟨by decide +kernel, rfl⟩
theorem d_La_law_472 : dz b_La_law 472 (.iconst 3) 1 473 := ⟨by decide +kernel, rfl⟩
theorem d_La_law_473 : dz b_La_law 473 (.iadd) 1 474 := ⟨by decide +kernel, rfl⟩
theorem d_La_law_474 : dz b_La_law 474 (.iaload) 1 475 := ⟨by decide +kernel, rfl⟩
theorem d_La_law_475 : dz b_La_law 475 (.aload_n 0) 1 476 := ⟨by decide +kernel, rfl⟩
theorem d_La_law_476 : dz b_La_law 476 (.iload_n 3) 1 477 := ⟨by decide +kernel, rfl⟩
theorem d_La_law_477 : dz b_La_law 477 (.iconst 4) 1 478 := ⟨by decide +kernel, rfl⟩
theorem d_La_law_478 : dz b_La_law 478 (.iadd) 1 479 := ⟨by decide +kernel, rfl⟩
theorem d_La_law_479 : dz b_La_law 479 (.iaload) 1 480 := ⟨by decide +kernel, rfl⟩
theorem d_La_law_480 : dj b_La_law 480 (.ifCond .eq) 483 487 := ⟨7, by decide +kernel, rfl, by decide⟩
theorem d_La_law_483 : dz b_La_law 483 (.iconst 1) 1 484 := ⟨by decide +kernel, rfl⟩
theorem d_La_law_484 : dj b_La_law 484 (.goto) 487 488 := ⟨4, by decide +kernel, rfl, by decide⟩
theorem d_La_law_487 : dz b_La_law 487 (.iconst 0) 1 488 := ⟨by decide +kernel, rfl⟩
theorem d_La_law_488 : dz b_La_law 488 (.invokevirtual 57) 3 491 := ⟨by decide +kernel, rfl⟩
theorem d_La_law_491 : dz b_La_law 491 (.aload_n 2) 1 492 := ⟨by decide +kernel, rfl⟩
theorem d_La_law_492 : dz b_La_law 492 (.aload_n 0) 1 493 := ⟨by decide +kernel, rfl⟩
theorem d_La_law_493 : dz b_La_law 493 (.iload_n 3) 1 494 := ⟨by decide +kernel, rfl⟩
theorem d_La_law_494 : dz b_La_law 494 (.iconst 1) 1 495 := ⟨by decide +kernel, rfl⟩
theorem d_La_law_495 : dz b_La_law 495 (.iadd) 1 496 := ⟨by decide +kernel, rfl⟩
theorem d_La_law_496 : dz b_La_law 496 (.iaload) 1 497 := ⟨by decide +kernel, rfl⟩
theorem d_La_law_497 : dz b_La_law 497 (.aload_n 0) 1 498 := ⟨by decide +kernel, rfl⟩
theorem d_La_law_498 : dz b_La_law 498 (.iload_n 3) 1 499 := ⟨by decide +kernel, rfl⟩
theorem d_La_law_499 : dz b_La_law 499 (.iconst 2) 1 500 := ⟨by decide +kernel, rfl⟩
theorem d_La_law_500 : dz b_La_law 500 (.iadd) 1 501 := ⟨by decide +kernel, rfl⟩
theorem d_La_law_501 : dz b_La_law 501 (.iaload) 1 502 := ⟨by decide +kernel, rfl⟩
theorem d_La_law_502 : dz b_La_law 502 (.aload_n 0) 1 503 := ⟨by decide +kernel, rfl⟩
theorem d_La_law_503 : dz b_La_law 503 (.iload_n 3) 1 504 := ⟨by decide +kernel, rfl⟩
theorem d_La_law_504 : dz b_La_law 504 (.iconst 3) 1 505 := ⟨by decide +kernel, rfl⟩
theorem d_La_law_505 : dz b_La_law 505 (.iadd) 1 506 := ⟨by decide +kernel, rfl⟩
theorem d_La_law_506 : dz b_La_law 506 (.iaload) 1 507 := ⟨by decide +kernel, rfl⟩
theorem d_La_law_507 : dz b_La_law 507 (.aload_n 0) 1 508 := ⟨by decide +kernel, rfl⟩
theorem d_La_law_508 : dz b_La_law 508 (.iload_n 3) 1 509 := ⟨by decide +kernel, rfl⟩
theorem d_La_law_509 : dz b_La_law 509 (.iconst 4) 1 510 := ⟨by decide +kernel, rfl⟩
theorem d_La_law_510 : dz b_La_law 510 (.iadd) 1 511 := ⟨by decide +kernel, rfl⟩
theorem d_La_law_511 : dz b_La_law 511 (.iaload) 1 512 := ⟨by decide +kernel, rfl⟩
theorem d_La_law_512 : dj b_La_law 512 (.ifCond .eq) 515 519 := ⟨7, by decide +kernel, rfl, by decide⟩
theorem d_La_law_515 : dz b_La_law 515 (.iconst 1) 1 516 := ⟨by decide +kernel, rfl⟩
theorem d_La_law_516 : dj b_La_law 516 (.goto) 519 520 := ⟨4, by decide +kernel, rfl, by decide⟩
theorem d_La_law_519 : dz b_La_law 519 (.iconst 0) 1 520 := ⟨by decide +kernel, rfl⟩
theorem d_La_law_520 : dz b_La_law 520 (.invokevirtual 61) 3 523 := ⟨by decide +kernel, rfl⟩
theorem d_La_law_523 : dj b_La_law 523 (.if_icmp .eq) 526 941 := ⟨418, by decide +kernel, rfl, by decide⟩
theorem d_La_law_526 : dz b_La_law 526 (.iconst 0) 1 527 := ⟨by decide +kernel, rfl⟩
theorem d_La_law_527 : dz b_La_law 527 (.ireturn) 1 528 := ⟨by decide +kernel, rfl⟩
theorem d_La_law_528 : dz b_La_law 528 (.aload_n 1) 1 529 := ⟨by decide +kernel, rfl⟩
theorem d_La_law_529 : dz b_La_law 529 (.aload_n 0) 1 530 := ⟨by decide +kernel, rfl⟩
theorem d_La_law_530 : dz b_La_law 530 (.iload_n 3) 1 531 := ⟨by decide +kernel, rfl⟩
theorem d_La_law_531 : dz b_La_law 531 (.iconst 1) 1 532 := ⟨by decide +kernel, rfl⟩
theorem d_La_law_532 : dz b_La_law 532 (.iadd) 1 533 := ⟨by decide +kernel, rfl⟩
theorem d_La_law_533 : dz b_La_law 533 (.iaload) 1 534 := ⟨by decide +kernel, rfl⟩
theorem d_La_law_534 : dz b_La_law 534 (.aload_n 0) 1 535 := ⟨by decide +kernel, rfl⟩
theorem d_La_law_535 : dz b_La_law 535 (.iload_n 3) 1 536 := ⟨by decide +kernel, rfl⟩
theorem d_La_law_536 : dz b_La_law 536 (.iconst 2) 1 537 := ⟨by decide +kernel, rfl⟩
theorem d_La_law_537 : dz b_La_law 537 (.iadd) 1 538 := ⟨by decide +kernel, rfl⟩
theorem d_La_law_538 : dz b_La_law 538 (.iaload) 1 539 := ⟨by decide +kernel, rfl⟩
theorem d_La_law_539 : dz b_La_law 539 (.aload_n 0) 1 540 := ⟨by decide +kernel, rfl⟩
theorem d_La_law_540 : dz b_La_law 540 (.iload_n 3) 1 541 := ⟨by decide +kernel, rfl⟩
theorem d_La_law_541 : dz b_La_law 541 (.iconst 3) 1 542 := ⟨by decide +kernel, rfl⟩
theorem d_La_law_542 : dz b_La_law 542 (.iadd) 1 543 := ⟨by decide +kernel, rfl⟩
theorem d_La_law_543 : dz b_La_law 543 (.iaload) 1 544 := ⟨by decide +kernel, rfl⟩
theorem d_La_law_544 : dz b_La_law 544 (.aload_n 0) 1 545 := ⟨by decide +kernel, rfl⟩
theorem d_La_law_545 : dz b_La_law 545 (.iload_n 3) 1 546 := ⟨by decide +kernel, rfl⟩
theorem d_La_law_546 : dz b_La_law 546 (.iconst 4) 1 547 := ⟨by decide +kernel, rfl⟩
theorem d_La_law_547 : dz b_La_law 547 (.iadd) 1 548 := ⟨by decide +kernel, rfl⟩
theorem d_La_law_548 : dz b_La_law 548 (.iaload) 1 549 := ⟨by decide +kernel, rfl⟩
theorem d_La_law_549 : dz b_La_law 549 (.invokevirtual 62) 3 552 := ⟨by decide +kernel, rfl⟩
theorem d_La_law_552 : dz b_La_law 552 (.aload_n 2) 1 553 := ⟨by decide +kernel, rfl⟩
theorem d_La_law_553 : dz b_La_law 553 (.aload_n 0) 1 554 := ⟨by decide +kernel, rfl⟩
theorem d_La_law_554 : dz b_La_law 554 (.iload_n 3) 1 555 := ⟨by decide +kernel, rfl⟩
theorem d_La_law_555 : dz b_La_law 555 (.iconst 1) 1 556 := ⟨by decide +kernel, rfl⟩
theorem d_La_law_556 : dz b_La_law 556 (.iadd) 1 557 := ⟨by decide +kernel, rfl⟩
theorem d_La_law_557 : dz b_La_law 557 (.iaload) 1 558 := ⟨by decide +kernel, rfl⟩
theorem d_La_law_558 : dz b_La_law 558 (.aload_n 0) 1 559 := ⟨by decide +kernel, rfl⟩
theorem d_La_law_559 : dz b_La_law 559 (.iload_n 3) 1 560 := ⟨by decide +kernel, rfl⟩
theorem d_La_law_560 : dz b_La_law 560 (.iconst 2) 1 561 := ⟨by decide +kernel, rfl⟩
theorem d_La_law_561 : dz b_La_law 561 (.iadd) 1 562 := ⟨by decide +kernel, rfl⟩
theorem d_La_law_562 : dz b_La_law 562 (.iaload) 1 563 := ⟨by decide +kernel, rfl⟩
theorem d_La_law_563 : dz b_La_law 563 (.aload_n 0) 1 564 := ⟨by decide +kernel, rfl⟩
theorem d_La_law_564 : dz b_La_law 564 (.iload_n 3) 1 565 := ⟨by decide +kernel, rfl⟩
theorem d_La_law_565 : dz b_La_law 565 (.iconst 3) 1 566 := ⟨by decide +kernel, rfl⟩
theorem d_La_law_566 : dz b_La_law 566 (.iadd) 1 567 := ⟨by decide +kernel, rfl⟩
theorem d_La_law_567 : dz b_La_law 567 (.iaload) 1 568 := ⟨by decide +kernel, rfl⟩
theorem d_La_law_568 : dz b_La_law 568 (.aload_n 0) 1 569 := ⟨by decide +kernel, rfl⟩
theorem d_La_law_569 : dz b_La_law 569 (.iload_n 3) 1 570 := ⟨by decide +kernel, rfl⟩
theorem d_La_law_570 : dz b_La_law 570 (.iconst 4) 1 571 := ⟨by decide +kernel, rfl⟩
theorem d_La_law_571 : dz b_La_law 571 (.iadd) 1 572 := ⟨by decide +kernel, rfl⟩
theorem d_La_law_572 : dz b_La_law 572 (.iaload) 1 573 := ⟨by decide +kernel, rfl⟩
theorem d_La_law_573 : dz b_La_law 573 (.invokevirtual 66) 3 576 := ⟨by decide +kernel, rfl⟩
theorem d_La_law_576 : dj b_La_law 576 (.if_icmp .eq) 579 941 := ⟨365, by decide +kernel, rfl, by decide⟩
theorem d_La_law_579 : dz b_La_law 579 (.iconst 0) 1 580 := ⟨by decide +kernel, rfl⟩
theorem d_La_law_580 : dz b_La_law 580 (.ireturn) 1 581 := ⟨by decide +kernel, rfl⟩
theorem d_La_law_581 : dz b_La_law 581 (.aload_n 1) 1 582 := ⟨by decide +kernel, rfl⟩
theorem d_La_law_582 : dz b_La_law 582 (.aload_n 0) 1 583 := ⟨by decide +kernel, rfl⟩
theorem d_La_law_583 : dz b_La_law 583 (.iload_n 3) 1 584 := ⟨by decide +kernel, rfl⟩
theorem d_La_law_584 : dz b_La_law 584 (.iconst 1) 1 585 := ⟨by decide +kernel, rfl⟩
theorem d_La_law_585 : dz b_La_law 585 (.iadd) 1 586 := ⟨by decide +kernel, rfl⟩
theorem d_La_law_586 : dz b_La_law 586 (.iaload) 1 587 := ⟨by decide +kernel, rfl⟩
theorem d_La_law_587 : dz b_La_law 587 (.aload_n 0) 1 588 := ⟨by decide +kernel, rfl⟩
theorem d_La_law_588 : dz b_La_law 588 (.iload_n 3) 1 589 := ⟨by decide +kernel, rfl⟩
theorem d_La_law_589 : dz b_La_law 589 (.iconst 2) 1 590 := ⟨by decide +kernel, rfl⟩
theorem d_La_law_590 : dz b_La_law 590 (.iadd) 1 591 := ⟨by decide +kernel, rfl⟩
theorem d_La_law_591 : dz b_La_law 591 (.iaload) 1 592 := ⟨by decide +kernel, rfl⟩
theorem d_La_law_592 : dz b_La_law 592 (.invokevirtual 67) 3 595 := ⟨by decide +kernel, rfl⟩
theorem d_La_law_595 : dz b_La_law 595 (.aload_n 2) 1 596 := ⟨by decide +kernel, rfl⟩
theorem d_La_law_596 : dz b_La_law 596 (.aload_n 0) 1 597 := ⟨by decide +kernel, rfl⟩
theorem d_La_law_597 : dz b_La_law 597 (.iload_n 3) 1 598 := ⟨by decide +kernel, rfl⟩
theorem d_La_law_598 : dz b_La_law 598 (.iconst 1) 1 599 := ⟨by decide +kernel, rfl⟩
theorem d_La_law_599 : dz b_La_law 599 (.iadd) 1 600 := ⟨by decide +kernel, rfl⟩
theorem d_La_law_600 : dz b_La_law 600 (.iaload) 1 601 := ⟨by decide +kernel, rfl⟩
theorem d_La_law_601 : dz b_La_law 601 (.aload_n 0) 1 602 := ⟨by decide +kernel, rfl⟩
theorem d_La_law_602 : dz b_La_law 602 (.iload_n 3) 1 603 := ⟨by decide +kernel, rfl⟩
theorem d_La_law_603 : dz b_La_law 603 (.iconst 2) 1 604 := ⟨by decide +kernel, rfl⟩
theorem d_La_law_604 : dz b_La_law 604 (.iadd) 1 605 := ⟨by decide +kernel, rfl⟩
theorem d_La_law_605 : dz b_La_law 605 (.iaload) 1 606 := ⟨by decide +kernel, rfl⟩
theorem d_La_law_606 : dz b_La_law 606 (.invokevirtual 71) 3 609 := ⟨by decide +kernel, rfl⟩
theorem d_La_law_609 : dj b_La_law 609 (.if_icmp .eq) 612 941 := ⟨332, by decide +kernel, rfl, by decide⟩
theorem d_La_law_612 : dz b_La_law 612 (.iconst 0) 1 613 := ⟨by decide +kernel, rfl⟩
theorem d_La_law_613 : dz b_La_law 613 (.ireturn) 1 614 := ⟨by decide +kernel, rfl⟩
theorem d_La_law_614 : dz b_La_law 614 (.aload_n 1) 1 615 := ⟨by decide +kernel, rfl⟩
theorem d_La_law_615 : dz b_La_law 615 (.aload_n 0) 1 616 := ⟨by decide +kernel, rfl⟩
theorem d_La_law_616 : dz b_La_law 616 (.iload_n 3) 1 617 := ⟨by decide +kernel, rfl⟩
theorem d_La_law_617 : dz b_La_law 617 (.iconst 1) 1 618 := ⟨by decide +kernel, rfl⟩
theorem d_La_law_618 : dz b_La_law 618 (.iadd) 1 619 := ⟨by decide +kernel, rfl⟩
theorem d_La_law_619 : dz b_La_law 619 (.iaload) 1 620 := ⟨by decide +kernel, rfl⟩
theorem d_La_law_620 : dz b_La_law 620 (.aload_n 0) 1 621 := ⟨by decide +kernel, rfl⟩
theorem d_La_law_621 : dz b_La_law 621 (.iload_n 3) 1 622 := ⟨by decide +kernel, rfl⟩
theorem d_La_law_622 : dz b_La_law 622 (.iconst 2) 1 623 := ⟨by decide +kernel, rfl⟩
theorem d_La_law_623 : dz b_La_law 623 (.iadd) 1 624 := ⟨by decide +kernel, rfl⟩
theorem d_La_law_624 : dz b_La_law 624 (.iaload) 1 625 := ⟨by decide +kernel, rfl⟩
theorem d_La_law_625 : dz b_La_law 625 (.aload_n 0) 1 626 := ⟨by decide +kernel, rfl⟩
theorem d_La_law_626 : dz b_La_law 626 (.iload_n 3) 1 627 := ⟨by decide +kernel, rfl⟩
theorem d_La_law_627 : dz b_La_law 627 (.iconst 3) 1 628 := ⟨by decide +kernel, rfl⟩
theorem d_La_law_628 : dz b_La_law 628 (.iadd) 1 629 := ⟨by decide +kernel, rfl⟩
theorem d_La_law_629 : dz b_La_law 629 (.iaload) 1 630 := ⟨by decide +kernel, rfl⟩
theorem d_La_law_630 : dz b_La_law 630 (.invokevirtual 72) 3 633 := ⟨by decide +kernel, rfl⟩
theorem d_La_law_633 : dz b_La_law 633 (.aload_n 2) 1 634 := ⟨by decide +kernel, rfl⟩
theorem d_La_law_634 : dz b_La_law 634 (.aload_n 0) 1 635 := ⟨by decide +kernel, rfl⟩
theorem d_La_law_635 : dz b_La_law 635 (.iload_n 3) 1 636 := ⟨by decide +kernel, rfl⟩
theorem d_La_law_636 : dz b_La_law 636 (.iconst 1) 1 637 := ⟨by decide +kernel, rfl⟩
theorem d_La_law_637 : dz b_La_law 637 (.iadd) 1 638 := ⟨by decide +kernel, rfl⟩
theorem d_La_law_638 : dz b_La_law 638 (.iaload) 1 639 := ⟨by decide +kernel, rfl⟩
theorem d_La_law_639 : dz b_La_law 639 (.aload_n 0) 1 640 := ⟨by decide +kernel, rfl⟩
theorem d_La_law_640 : dz b_La_law 640 (.iload_n 3) 1 641 := ⟨by decide +kernel, rfl⟩
theorem d_La_law_641 : dz b_La_law 641 (.iconst 2) 1 642 := ⟨by decide +kernel, rfl⟩
theorem d_La_law_642 : dz b_La_law 642 (.iadd) 1 643 := ⟨by decide +kernel, rfl⟩
theorem d_La_law_643 : dz b_La_law 643 (.iaload) 1 644 := ⟨by decide +kernel, rfl⟩
theorem d_La_law_644 : dz b_La_law 644 (.aload_n 0) 1 645 := ⟨by decide +kernel, rfl⟩
theorem d_La_law_645 : dz b_La_law 645 (.iload_n 3) 1 646 := ⟨by decide +kernel, rfl⟩
theorem d_La_law_646 : dz b_La_law 646 (.iconst 3) 1 647 := ⟨by decide +kernel, rfl⟩
theorem d_La_law_647 : dz b_La_law 647 (.iadd) 1 648 := ⟨by decide +kernel, rfl⟩
theorem d_La_law_648 : dz b_La_law 648 (.iaload) 1 649 := ⟨by decide +kernel, rfl⟩
theorem d_La_law_649 : dz b_La_law 649 (.invokevirtual 75) 3 652 := ⟨by decide +kernel, rfl⟩
theorem d_La_law_652 : dj b_La_law 652 (.if_icmp .eq) 655 941 := ⟨289, by decide +kernel, rfl, by decide⟩
theorem d_La_law_655 : dz b_La_law 655 (.iconst 0) 1 656 := ⟨by decide +kernel, rfl⟩
theorem d_La_law_656 : dz b_La_law 656 (.ireturn) 1 657 := ⟨by decide +kernel, rfl⟩
theorem d_La_law_657 : dz b_La_law 657 (.aload_n 1) 1 658 := ⟨by decide +kernel, rfl⟩
theorem d_La_law_658 : dz b_La_law 658 (.aload_n 0) 1 659 := ⟨by decide +kernel, rfl⟩
theorem d_La_law_659 : dz b_La_law 659 (.iload_n 3) 1 660 := ⟨by decide +kernel, rfl⟩
theorem d_La_law_660 : dz b_La_law 660 (.iconst 1) 1 661 := ⟨by decide +kernel, rfl⟩
theorem d_La_law_661 : dz b_La_law 661 (.iadd) 1 662 := ⟨by decide +kernel, rfl⟩
theorem d_La_law_662 : dz b_La_law 662 (.iaload) 1 663 := ⟨by decide +kernel, rfl⟩
theorem d_La_law_663 : dz b_La_law 663 (.aload_n 0) 1 664 := ⟨by decide +kernel, rfl⟩
theorem d_La_law_664 : dz b_La_law 664 (.iload_n 3) 1 665 := ⟨by decide +kernel, rfl⟩
theorem d_La_law_665 : dz b_La_law 665 (.iconst 2) 1 666 := ⟨by decide +kernel, rfl⟩
theorem d_La_law_666 : dz b_La_law 666 (.iadd) 1 667 := ⟨by decide +kernel, rfl⟩
theorem d_La_law_667 : dz b_La_law 667 (.iaload) 1 668 := ⟨by decide +kernel, rfl⟩
theorem d_La_law_668 : dz b_La_law 668 (.invokevirtual 76) 3 671 := ⟨by decide +kernel, rfl⟩
theorem d_La_law_671 : dz b_La_law 671 (.aload_n 2) 1 672 := ⟨by decide +kernel, rfl⟩
theorem d_La_law_672 : dz b_La_law 672 (.aload_n 0) 1 673 := ⟨by decide +kernel, rfl⟩
theorem d_La_law_673 : dz b_La_law 673 (.iload_n 3) 1 674 := ⟨by decide +kernel, rfl⟩
theorem d_La_law_674 : dz b_La_law 674 (.iconst 1) 1 675 := ⟨by decide +kernel, rfl⟩
theorem d_La_law_675 : dz b_La_law 675 (.iadd) 1 676 := ⟨by decide +kernel, rfl⟩
theorem d_La_law_676 : dz b_La_law 676 (.iaload) 1 677 := ⟨by decide +kernel, rfl⟩
theorem d_La_law_677 : dz b_La_law 677 (.aload_n 0) 1 678 := ⟨by decide +kernel, rfl⟩
theorem d_La_law_678 : dz b_La_law 678 (.iload_n 3) 1 679 := ⟨by decide +kernel, rfl⟩
theorem d_La_law_679 : dz b_La_law 679 (.iconst 2) 1 680 := ⟨by decide +kernel, rfl⟩
theorem d_La_law_680 : dz b_La_law 680 (.iadd) 1 681 := ⟨by decide +kernel, rfl⟩
theorem d_La_law_681 : dz b_La_law 681 (.iaload) 1 682 := ⟨by decide +kernel, rfl⟩
theorem d_La_law_682 : dz b_La_law 682 (.invokevirtual 80) 3 685 := ⟨by decide +kernel, rfl⟩
theorem d_La_law_685 : dj b_La_law 685 (.if_icmp .eq) 688 941 := ⟨256, by decide +kernel, rfl, by decide⟩
theorem d_La_law_688 : dz b_La_law 688 (.iconst 0) 1 689 := ⟨by decide +kernel, rfl⟩
theorem d_La_law_689 : dz b_La_law 689 (.ireturn) 1 690 := ⟨by decide +kernel, rfl⟩
theorem d_La_law_690 : dz b_La_law 690 (.aload_n 1) 1 691 := ⟨by decide +kernel, rfl⟩
theorem d_La_law_691 : dz b_La_law 691 (.aload_n 0) 1 692 := ⟨by decide +kernel, rfl⟩
theorem d_La_law_692 : dz b_La_law 692 (.iload_n 3) 1 693 := ⟨by decide +kernel, rfl⟩
theorem d_La_law_693 : dz b_La_law 693 (.iconst 1) 1 694 := ⟨by decide +kernel, rfl⟩
theorem d_La_law_694 : dz b_La_law 694 (.iadd) 1 695 := ⟨by decide +kernel, rfl⟩
theorem d_La_law_695 : dz b_La_law 695 (.iaload) 1 696 := ⟨by decide +kernel, rfl⟩
theorem d_La_law_696 : dz b_La_law 696 (.aload_n 0) 1 697 := ⟨by decide +kernel, rfl⟩
theorem d_La_law_697 : dz b_La_law 697 (.iload_n 3) 1 698 := ⟨by decide +kernel, rfl⟩
theorem d_La_law_698 : dz b_La_law 698 (.iconst 2) 1 699 := ⟨by decide +kernel, rfl⟩
theorem d_La_law_699 : dz b_La_law 699 (.iadd) 1 700 := ⟨by decide +kernel, rfl⟩
theorem d_La_law_700 : dz b_La_law 700 (.iaload) 1 701 := ⟨by decide +kernel, rfl⟩
theorem d_La_law_701 : dz b_La_law 701 (.aload_n 0) 1 702 := ⟨by decide +kernel, rfl⟩
theorem d_La_law_702 : dz b_La_law 702 (.iload_n 3) 1 703 := ⟨by decide +kernel, rfl⟩
theorem d_La_law_703 : dz b_La_law 703 (.iconst 3) 1 704 := ⟨by decide +kernel, rfl⟩
theorem d_La_law_704 : dz b_La_law 704 (.iadd) 1 705 := ⟨by decide +kernel, rfl⟩
theorem d_La_law_705 : dz b_La_law 705 (.iaload) 1 706 := ⟨by decide +kernel, rfl⟩
theorem d_La_law_706 : dz b_La_law 706 (.invokevirtual 81) 3 709 := ⟨by decide +kernel, rfl⟩
theorem d_La_law_709 : dz b_La_law 709 (.aload_n 2) 1 710 := ⟨by decide +kernel, rfl⟩
theorem d_La_law_710 : dz b_La_law 710 (.aload_n 0) 1 711 := ⟨by decide +kernel, rfl⟩
theorem d_La_law_711 : dz b_La_law 711 (.iload_n 3) 1 712 := ⟨by decide +kernel, rfl⟩
theorem d_La_law_712 : dz b_La_law 712 (.iconst 1) 1 713 := ⟨by decide +kernel, rfl⟩
theorem d_La_law_713 : dz b_La_law 713 (.iadd) 1 714 := ⟨by decide +kernel, rfl⟩
theorem d_La_law_714 : dz b_La_law 714 (.iaload) 1 715 := ⟨by decide +kernel, rfl⟩
theorem d_La_law_715 : dz b_La_law 715 (.aload_n 0) 1 716 := ⟨by decide +kernel, rfl⟩
theorem d_La_law_716 : dz b_La_law 716 (.iload_n 3) 1 717 := ⟨by decide +kernel, rfl⟩
theorem d_La_law_717 : dz b_La_law 717 (.iconst 2) 1 718 := ⟨by decide +kernel, rfl⟩
theorem d_La_law_718 : dz b_La_law 718 (.iadd) 1 719 := ⟨by decide +kernel, rfl⟩
theorem d_La_law_719 : dz b_La_law 719 (.iaload) 1 720 := ⟨by decide +kernel, rfl⟩
theorem d_La_law_720 : dz b_La_law 720 (.aload_n 0) 1 721 := ⟨by decide +kernel, rfl⟩
theorem d_La_law_721 : dz b_La_law 721 (.iload_n 3) 1 722 := ⟨by decide +kernel, rfl⟩
theorem d_La_law_722 : dz b_La_law 722 (.iconst 3) 1 723 := ⟨by decide +kernel, rfl⟩
theorem d_La_law_723 : dz b_La_law 723 (.iadd) 1 724 := ⟨by decide +kernel, rfl⟩
theorem d_La_law_724 : dz b_La_law 724 (.iaload) 1 725 := ⟨by decide +kernel, rfl⟩
theorem d_La_law_725 : dz b_La_law 725 (.invokevirtual 85) 3 728 := ⟨by decide +kernel, rfl⟩
theorem d_La_law_728 : dj b_La_law 728 (.if_icmp .eq) 731 941 := ⟨213, by decide +kernel, rfl, by decide⟩
theorem d_La_law_731 : dz b_La_law 731 (.iconst 0) 1 732 := ⟨by decide +kernel, rfl⟩
theorem d_La_law_732 : dz b_La_law 732 (.ireturn) 1 733 := ⟨by decide +kernel, rfl⟩
theorem d_La_law_733 : dz b_La_law 733 (.aload_n 1) 1 734 := ⟨by decide +kernel, rfl⟩
theorem d_La_law_734 : dz b_La_law 734 (.aload_n 0) 1 735 := ⟨by decide +kernel, rfl⟩
theorem d_La_law_735 : dz b_La_law 735 (.iload_n 3) 1 736 := ⟨by decide +kernel, rfl⟩
theorem d_La_law_736 : dz b_La_law 736 (.iconst 1) 1 737 := ⟨by decide +kernel, rfl⟩
theorem d_La_law_737 : dz b_La_law 737 (.iadd) 1 738 := ⟨by decide +kernel, rfl⟩
theorem d_La_law_738 : dz b_La_law 738 (.iaload) 1 739 := ⟨by decide +kernel, rfl⟩
theorem d_La_law_739 : dz b_La_law 739 (.aload_n 0) 1 740 := ⟨by decide +kernel, rfl⟩
theorem d_La_law_740 : dz b_La_law 740 (.iload_n 3) 1 741 := ⟨by decide +kernel, rfl⟩
theorem d_La_law_741 : dz b_La_law 741 (.iconst 2) 1 742 := ⟨by decide +kernel, rfl⟩
theorem d_La_law_742 : dz b_La_law 742 (.iadd) 1 743 := ⟨by decide +kernel, rfl⟩
theorem d_La_law_743 : dz b_La_law 743 (.iaload) 1 744 := ⟨by decide +kernel, rfl⟩
theorem d_La_law_744 : dz b_La_law 744 (.aload_n 0) 1 745 := ⟨by decide +kernel, rfl⟩
theorem d_La_law_745 : dz b_La_law 745 (.iload_n 3) 1 746 := ⟨by decide +kernel, rfl⟩
theorem d_La_law_746 : dz b_La_law 746 (.iconst 3) 1 747 := ⟨by decide +kernel, rfl⟩
theorem d_La_law_747 : dz b_La_law 747 (.iadd) 1 748 := ⟨by decide +kernel, rfl⟩
theorem d_La_law_748 : dz b_La_law 748 (.iaload) 1 749 := ⟨by decide +kernel, rfl⟩
theorem d_La_law_749 : dz b_La_law 749 (.aload_n 0) 1 750 := ⟨by decide +kernel, rfl⟩
theorem d_La_law_750 : dz b_La_law 750 (.iload_n 3) 1 751 := ⟨by decide +kernel, rfl⟩
theorem d_La_law_751 : dz b_La_law 751 (.iconst 4) 1 752 := ⟨by decide +kernel, rfl⟩
theorem d_La_law_752 : dz b_La_law 752 (.iadd) 1 753 := ⟨by decide +kernel, rfl⟩
theorem d_La_law_753 : dz b_La_law 753 (.iaload) 1 754 := ⟨by decide +kernel, rfl⟩
theorem d_La_law_754 : dz b_La_law 754 (.aload_n 0) 1 755 := ⟨by decide +kernel, rfl⟩
theorem d_La_law_755 : dz b_La_law 755 (.iload_n 3) 1 756 := ⟨by decide +kernel, rfl⟩
theorem d_La_law_756 : dz b_La_law 756 (.iconst 5) 1 757 := ⟨by decide +kernel, rfl⟩
theorem d_La_law_757 : dz b_La_law 757 (.iadd) 1 758 := ⟨by decide +kernel, rfl⟩
theorem d_La_law_758 : dz b_La_law 758 (.iaload) 1 759 := ⟨by decide +kernel, rfl⟩
theorem d_La_law_759 : dz b_La_law 759 (.invokevirtual 86) 3 762 := ⟨by decide +kernel, rfl⟩
theorem d_La_law_762 : dz b_La_law 762 (.aload_n 2) 1 763 := ⟨by decide +kernel, rfl⟩
theorem d_La_law_763 : dz b_La_law 763 (.aload_n 0) 1 764 := ⟨by decide +kernel, rfl⟩
theorem d_La_law_764 : dz b_La_law 764 (.iload_n 3) 1 765 := ⟨by decide +kernel, rfl⟩
theorem d_La_law_765 : dz b_La_law 765 (.iconst 1) 1 766 := ⟨by decide +kernel, rfl⟩
theorem d_La_law_766 : dz b_La_law 766 (.iadd) 1 767 := ⟨by decide +kernel, rfl⟩
theorem d_La_law_767 : dz b_La_law 767 (.iaload) 1 768 := ⟨by decide +kernel, rfl⟩
theorem d_La_law_768 : dz b_La_law 768 (.aload_n 0) 1 769 := ⟨by decide +kernel, rfl⟩
theorem d_La_law_769 : dz b_La_law 769 (.iload_n 3) 1 770 := ⟨by decide +kernel, rfl⟩
theorem d_La_law_770 : dz b_La_law 770 (.iconst 2) 1 771 := ⟨by decide +kernel, rfl⟩
theorem d_La_law_771 : dz b_La_law 771 (.iadd) 1 772 := ⟨by decide +kernel, rfl⟩
theorem d_La_law_772 : dz b_La_law 772 (.iaload) 1 773 := ⟨by decide +kernel, rfl⟩
theorem d_La_law_773 : dz b_La_law 773 (.aload_n 0) 1 774 := ⟨by decide +kernel, rfl⟩
theorem d_La_law_774 : dz b_La_law 774 (.iload_n 3) 1 775 := ⟨by decide +kernel, rfl⟩
theorem d_La_law_775 : dz b_La_law 775 (.iconst 3) 1 776 := ⟨by decide +kernel, rfl⟩
theorem d_La_law_776 : dz b_La_law 776 (.iadd) 1 777 := ⟨by decide +kernel, rfl⟩
theorem d_La_law_777 : dz b_La_law 777 (.iaload) 1 778 := ⟨by decide +kernel, rfl⟩
theorem d_La_law_778 : dz b_La_law 778 (.aload_n 0) 1 779 := ⟨by decide +kernel, rfl⟩
theorem d_La_law_779 : dz b_La_law 779 (.iload_n 3) 1 780 := ⟨by decide +kernel, rfl⟩
theorem d_La_law_780 : dz b_La_law 780 (.iconst 4) 1 781 := ⟨by decide +kernel, rfl⟩
theorem d_La_law_781 : dz b_La_law 781 (.iadd) 1 782 := ⟨by decide +kernel, rfl⟩
theorem d_La_law_782 : dz b_La_law 782 (.iaload) 1 783 := ⟨by decide +kernel, rfl⟩
theorem d_La_law_783 : dz b_La_law 783 (.aload_n 0) 1 784 := ⟨by decide +kernel, rfl⟩
theorem d_La_law_784 : dz b_La_law 784 (.iload_n 3) 1 785 := ⟨by decide +kernel, rfl⟩
theorem d_La_law_785 : dz b_La_law 785 (.iconst 5) 1 786 := ⟨by decide +kernel, rfl⟩
theorem d_La_law_786 : dz b_La_law 786 (.iadd) 1 787 := ⟨by decide +kernel, rfl⟩
theorem d_La_law_787 : dz b_La_law 787 (.iaload) 1 788 := ⟨by decide +kernel, rfl⟩
theorem d_La_law_788 : dz b_La_law 788 (.invokevirtual 89) 3 791 := ⟨by decide +kernel, rfl⟩
theorem d_La_law_791 : dj b_La_law 791 (.if_icmp .eq) 794 941 := ⟨150, by decide +kernel, rfl, by decide⟩
theorem d_La_law_794 : dz b_La_law 794 (.iconst 0) 1 795 := ⟨by decide +kernel, rfl⟩
theorem d_La_law_795 : dz b_La_law 795 (.ireturn) 1 796 := ⟨by decide +kernel, rfl⟩
theorem d_La_law_796 : dz b_La_law 796 (.aload_n 1) 1 797 := ⟨by decide +kernel, rfl⟩
theorem d_La_law_797 : dz b_La_law 797 (.aload_n 0) 1 798 := ⟨by decide +kernel, rfl⟩
theorem d_La_law_798 : dz b_La_law 798 (.iload_n 3) 1 799 := ⟨by decide +kernel, rfl⟩
theorem d_La_law_799 : dz b_La_law 799 (.iconst 1) 1 800 := ⟨by decide +kernel, rfl⟩
theorem d_La_law_800 : dz b_La_law 800 (.iadd) 1 801 := ⟨by decide +kernel, rfl⟩
theorem d_La_law_801 : dz b_La_law 801 (.iaload) 1 802 := ⟨by decide +kernel, rfl⟩
theorem d_La_law_802 : dz b_La_law 802 (.aload_n 0) 1 803 := ⟨by decide +kernel, rfl⟩
theorem d_La_law_803 : dz b_La_law 803 (.iload_n 3) 1 804 := ⟨by decide +kernel, rfl⟩
theorem d_La_law_804 : dz b_La_law 804 (.iconst 2) 1 805 := ⟨by decide +kernel, rfl⟩
theorem d_La_law_805 : dz b_La_law 805 (.iadd) 1 806 := ⟨by decide +kernel, rfl⟩
theorem d_La_law_806 : dz b_La_law 806 (.iaload) 1 807 := ⟨by decide +kernel, rfl⟩
theorem d_La_law_807 : dz b_La_law 807 (.invokevirtual 90) 3 810 := ⟨by decide +kernel, rfl⟩
theorem d_La_law_810 : dz b_La_law 810 (.aload_n 2) 1 811 := ⟨by decide +kernel, rfl⟩
theorem d_La_law_811 : dz b_La_law 811 (.aload_n 0) 1 812 := ⟨by decide +kernel, rfl⟩
theorem d_La_law_812 : dz b_La_law 812 (.iload_n 3) 1 813 := ⟨by decide +kernel, rfl⟩
theorem d_La_law_813 : dz b_La_law 813 (.iconst 1) 1 814 := ⟨by decide +kernel, rfl⟩
theorem d_La_law_814 : dz b_La_law 814 (.iadd) 1 815 := ⟨by decide +kernel, rfl⟩
theorem d_La_law_815 : dz b_La_law 815 (.iaload) 1 816 := ⟨by decide +kernel, rfl⟩
theorem d_La_law_816 : dz b_La_law 816 (.aload_n 0) 1 817 := ⟨by decide +kernel, rfl⟩
theorem d_La_law_817 : dz b_La_law 817 (.iload_n 3) 1 818 := ⟨by decide +kernel, rfl⟩
theorem d_La_law_818 : dz b_La_law 818 (.iconst 2) 1 819 := ⟨by decide +kernel, rfl⟩
theorem d_La_law_819 : dz b_La_law 819 (.iadd) 1 820 := ⟨by decide +kernel, rfl⟩
theorem d_La_law_820 : dz b_La_law 820 (.iaload) 1 821 := ⟨by decide +kernel, rfl⟩
theorem d_La_law_821 : dz b_La_law 821 (.invokevirtual 93) 3 824 := ⟨by decide +kernel, rfl⟩
theorem d_La_law_824 : dj b_La_law 824 (.if_icmp .eq) 827 941 := ⟨117, by decide +kernel, rfl, by decide⟩
theorem d_La_law_827 : dz b_La_law 827 (.iconst 0) 1 828 := ⟨by decide +kernel, rfl⟩
theorem d_La_law_828 : dz b_La_law 828 (.ireturn) 1 829 := ⟨by decide +kernel, rfl⟩
theorem d_La_law_829 : dz b_La_law 829 (.aload_n 1) 1 830 := ⟨by decide +kernel, rfl⟩
theorem d_La_law_830 : dz b_La_law 830 (.aload_n 0) 1 831 := ⟨by decide +kernel, rfl⟩
theorem d_La_law_831 : dz b_La_law 831 (.iload_n 3) 1 832 := ⟨by decide +kernel, rfl⟩
theorem d_La_law_832 : dz b_La_law 832 (.iconst 1) 1 833 := ⟨by decide +kernel, rfl⟩
theorem d_La_law_833 : dz b_La_law 833 (.iadd) 1 834 := ⟨by decide +kernel, rfl⟩
theorem d_La_law_834 : dz b_La_law 834 (.iaload) 1 835 := ⟨by decide +kernel, rfl⟩
theorem d_La_law_835 : dz b_La_law 835 (.aload_n 0) 1 836 := ⟨by decide +kernel, rfl⟩
theorem d_La_law_836 : dz b_La_law 836 (.iload_n 3) 1 837 := ⟨by decide +kernel, rfl⟩
theorem d_La_law_837 : dz b_La_law 837 (.iconst 2) 1 838 := ⟨by decide +kernel, rfl⟩
theorem d_La_law_838 : dz b_La_law 838 (.iadd) 1 839 := ⟨by decide +kernel, rfl⟩
theorem d_La_law_839 : dz b_La_law 839 (.iaload) 1 840 := ⟨by decide +kernel, rfl⟩
theorem d_La_law_840 : dz b_La_law 840 (.invokevirtual 94) 3 843 := ⟨by decide +kernel, rfl⟩
theorem d_La_law_843 : dz b_La_law 843 (.aload_n 2) 1 844 := ⟨by decide +kernel, rfl⟩
theorem d_La_law_844 : dz b_La_law 844 (.aload_n 0) 1 845 := ⟨by decide +kernel, rfl⟩
theorem d_La_law_845 : dz b_La_law 845 (.iload_n 3) 1 846 := ⟨by decide +kernel, rfl⟩
theorem d_La_law_846 : dz b_La_law 846 (.iconst 1) 1 847 := ⟨by decide +kernel, rfl⟩
theorem d_La_law_847 : dz b_La_law 847 (.iadd) 1 848 := ⟨by decide +kernel, rfl⟩
theorem d_La_law_848 : dz b_La_law 848 (.iaload) 1 849 := ⟨by decide +kernel, rfl⟩
theorem d_La_law_849 : dz b_La_law 849 (.aload_n 0) 1 850 := ⟨by decide +kernel, rfl⟩
theorem d_La_law_850 : dz b_La_law 850 (.iload_n 3) 1 851 := ⟨by decide +kernel, rfl⟩
theorem d_La_law_851 : dz b_La_law 851 (.iconst 2) 1 852 := ⟨by decide +kernel, rfl⟩
theorem d_La_law_852 : dz b_La_law 852 (.iadd) 1 853 := ⟨by decide +kernel, rfl⟩
theorem d_La_law_853 : dz b_La_law 853 (.iaload) 1 854 := ⟨by decide +kernel, rfl⟩
theorem d_La_law_854 : dz b_La_law 854 (.invokevirtual 97) 3 857 := ⟨by decide +kernel, rfl⟩
theorem d_La_law_857 : dj b_La_law 857 (.if_icmp .eq) 860 941 := ⟨84, by decide +kernel, rfl, by decide⟩
theorem d_La_law_860 : dz b_La_law 860 (.iconst 0) 1 861 := ⟨by decide +kernel, rfl⟩
theorem d_La_law_861 : dz b_La_law 861 (.ireturn) 1 862 := ⟨by decide +kernel, rfl⟩
theorem d_La_law_862 : dz b_La_law 862 (.aload_n 1) 1 863 := ⟨by decide +kernel, rfl⟩
theorem d_La_law_863 : dz b_La_law 863 (.aload_n 0) 1 864 := ⟨by decide +kernel, rfl⟩
theorem d_La_law_864 : dz b_La_law 864 (.iload_n 3) 1 865 := ⟨by decide +kernel, rfl⟩
theorem d_La_law_865 : dz b_La_law 865 (.iconst 1) 1 866 := ⟨by decide +kernel, rfl⟩
theorem d_La_law_866 : dz b_La_law 866 (.iadd) 1 867 := ⟨by decide +kernel, rfl⟩
theorem d_La_law_867 : dz b_La_law 867 (.iaload) 1 868 := ⟨by decide +kernel, rfl⟩
theorem d_La_law_868 : dz b_La_law 868 (.invokevirtual 98) 3 871 := ⟨by decide +kernel, rfl⟩
theorem d_La_law_871 : dz b_La_law 871 (.aload_n 2) 1 872 := ⟨by decide +kernel, rfl⟩
theorem d_La_law_872 : dz b_La_law 872 (.aload_n 0) 1 873 := ⟨by decide +kernel, rfl⟩
theorem d_La_law_873 : dz b_La_law 873 (.iload_n 3) 1 874 := ⟨by decide +kernel, rfl⟩
theorem d_La_law_874 : dz b_La_law 874 (.iconst 1) 1 875 := ⟨by decide +kernel, rfl⟩
theorem d_La_law_875 : dz b_La_law 875 (.iadd) 1 876 := ⟨by decide +kernel, rfl⟩
theorem d_La_law_876 : dz b_La_law 876 (.iaload) 1 877 := ⟨by decide +kernel, rfl⟩
theorem d_La_law_877 : dz b_La_law 877 (.invokevirtual 101) 3 880 := ⟨by decide +kernel, rfl⟩
theorem d_La_law_880 : dj b_La_law 880 (.if_icmp .eq) 883 941 := ⟨61, by decide +kernel, rfl, by decide⟩
theorem d_La_law_883 : dz b_La_law 883 (.iconst 0) 1 884 := ⟨by decide +kernel, rfl⟩
theorem d_La_law_884 : dz b_La_law 884 (.ireturn) 1 885 := ⟨by decide +kernel, rfl⟩
theorem d_La_law_885 : dz b_La_law 885 (.aload_n 1) 1 886 := ⟨by decide +kernel, rfl⟩
theorem d_La_law_886 : dz b_La_law 886 (.aload_n 0) 1 887 := ⟨by decide +kernel, rfl⟩
theorem d_La_law_887 : dz b_La_law 887 (.iload_n 3) 1 888 := ⟨by decide +kernel, rfl⟩
theorem d_La_law_888 : dz b_La_law 888 (.iconst 1) 1 889 := ⟨by decide +kernel, rfl⟩
theorem d_La_law_889 : dz b_La_law 889 (.iadd) 1 890 := ⟨by decide +kernel, rfl⟩
theorem d_La_law_890 : dz b_La_law 890 (.iaload) 1 891 := ⟨by decide +kernel, rfl⟩
theorem d_La_law_891 : dz b_La_law 891 (.aload_n 0) 1 892 := ⟨by decide +kernel, rfl⟩
theorem d_La_law_892 : dz b_La_law 892 (.iload_n 3) 1 893 := ⟨by decide +kernel, rfl⟩
theorem d_La_law_893 : dz b_La_law 893 (.iconst 2) 1 894 := ⟨by decide +kernel, rfl⟩
theorem d_La_law_894 : dz b_La_law 894 (.iadd) 1 895 := ⟨by decide +kernel, rfl⟩
theorem d_La_law_895 : dz b_La_law 895 (.iaload) 1 896 := ⟨by decide +kernel, rfl⟩
theorem d_La_law_896 : dz b_La_law 896 (.invokevirtual 102) 3 899 := ⟨by decide +kernel, rfl⟩
theorem d_La_law_899 : dz b_La_law 899 (.aload_n 2) 1 900 := ⟨by decide +kernel, rfl⟩
theorem d_La_law_900 : dz b_La_law 900 (.aload_n 0) 1 901 := ⟨by decide +kernel, rfl⟩
theorem d_La_law_901 : dz b_La_law 901 (.iload_n 3) 1 902 := ⟨by decide +kernel, rfl⟩
theorem d_La_law_902 : dz b_La_law 902 (.iconst 1) 1 903 := ⟨by decide +kernel, rfl⟩
theorem d_La_law_903 : dz b_La_law 903 (.iadd) 1 904 := ⟨by decide +kernel, rfl⟩
theorem d_La_law_904 : dz b_La_law 904 (.iaload) 1 905 := ⟨by decide +kernel, rfl⟩
theorem d_La_law_905 : dz b_La_law 905 (.aload_n 0) 1 906 := ⟨by decide +kernel, rfl⟩
theorem d_La_law_906 : dz b_La_law 906 (.iload_n 3) 1 907 := ⟨by decide +kernel, rfl⟩
theorem d_La_law_907 : dz b_La_law 907 (.iconst 2) 1 908 := ⟨by decide +kernel, rfl⟩
theorem d_La_law_908 : dz b_La_law 908 (.iadd) 1 909 := ⟨by decide +kernel, rfl⟩
theorem d_La_law_909 : dz b_La_law 909 (.iaload) 1 910 := ⟨by decide +kernel, rfl⟩
theorem d_La_law_910 : dz b_La_law 910 (.invokevirtual 105) 3 913 := ⟨by decide +kernel, rfl⟩
theorem d_La_law_913 : dj b_La_law 913 (.if_icmp .eq) 916 941 := ⟨28, by decide +kernel, rfl, by decide⟩
theorem d_La_law_916 : dz b_La_law 916 (.iconst 0) 1 917 := ⟨by decide +kernel, rfl⟩
theorem d_La_law_917 : dz b_La_law 917 (.ireturn) 1 918 := ⟨by decide +kernel, rfl⟩
theorem d_La_law_918 : dz b_La_law 918 (.aload_n 1) 1 919 := ⟨by decide +kernel, rfl⟩
theorem d_La_law_919 : dz b_La_law 919 (.aload_n 0) 1 920 := ⟨by decide +kernel, rfl⟩
theorem d_La_law_920 : dz b_La_law 920 (.iload_n 3) 1 921 := ⟨by decide +kernel, rfl⟩
theorem d_La_law_921 : dz b_La_law 921 (.iconst 1) 1 922 := ⟨by decide +kernel, rfl⟩
theorem d_La_law_922 : dz b_La_law 922 (.iadd) 1 923 := ⟨by decide +kernel, rfl⟩
theorem d_La_law_923 : dz b_La_law 923 (.iaload) 1 924 := ⟨by decide +kernel, rfl⟩
theorem d_La_law_924 : dz b_La_law 924 (.invokevirtual 106) 3 927 := ⟨by decide +kernel, rfl⟩
theorem d_La_law_927 : dz b_La_law 927 (.aload_n 2) 1 928 := ⟨by decide +kernel, rfl⟩
theorem d_La_law_928 : dz b_La_law 928 (.aload_n 0) 1 929 := ⟨by decide +kernel, rfl⟩
theorem d_La_law_929 : dz b_La_law 929 (.iload_n 3) 1 930 := ⟨by decide +kernel, rfl⟩
theorem d_La_law_930 : dz b_La_law 930 (.iconst 1) 1 931 := ⟨by decide +kernel, rfl⟩
theorem d_La_law_931 : dz b_La_law 931 (.iadd) 1 932 := ⟨by decide +kernel, rfl⟩
theorem d_La_law_932 : dz b_La_law 932 (.iaload) 1 933 := ⟨by decide +kernel, rfl⟩
theorem d_La_law_933 : dz b_La_law 933 (.invokevirtual 109) 3 936 := ⟨by decide +kernel, rfl⟩
theorem d_La_law_936 : dj b_La_law 936 (.if_icmp .eq) 939 941 := ⟨5, by decide +kernel, rfl, by decide⟩
theorem d_La_law_939 : dz b_La_law 939 (.iconst 0) 1 940 := ⟨by decide +kernel, rfl⟩
theorem d_La_law_940 : dz b_La_law 940 (.ireturn) 1 941 := ⟨by decide +kernel, rfl⟩
theorem d_La_law_941 : dz b_La_law 941 (.iinc 3 6) 3 944 := ⟨by decide +kernel, rfl⟩
theorem d_La_law_944 : dj b_La_law 944 (.goto) 947 18 := ⟨(-926), by decide +kernel, rfl, by decide⟩
theorem d_La_law_947 : dz b_La_law 947 (.iconst 1) 1 948 := ⟨by decide +kernel, rfl⟩
theorem d_La_law_948 : dz b_La_law 948 (.ireturn) 1 949 := ⟨by decide +kernel, rfl⟩
end
section
/-! THE BASE: a state of a walk as (locals, stack, world); contracts MP; the frame rule as one row -/
abbrev Gx : Type := va_G × (Nat → ClassId) × Nat × Nat
abbrev tyz (a : Nat → ClassId) : List (ClassId × FieldType) := [(a 0, .int), (a 1, .long), (a 2, .byte), (a 3, .boolean), (a 4, .object "java/lang/Object")]
def nn_ok (U : State) : Prop := ∀ w ∈ nn, va_Nw w U
theorem nn_warm {s U : State} (hW : s.WarmedH U.vm) (h : nn_ok s) : nn_ok U := by
  intro w hw
  have h1 := h w hw
  have h2 := (List.mem_filter.mp hw).2
  cases w <;> first | exact va_Nw.warmF hW h1 | exact va_Nw.warmM hW h1 | exact va_Nw.warmC hW h1 | exact va_Nw.warmD hW h1 | (simp [isN] at h2)
theorem nn_same {s U : State} (hv : s.vm = U.vm) (h : nn_ok s) : nn_ok U := by
  intro w hw
  have h1 := h w hw
  have h2 := (List.mem_filter.mp hw).2
  cases w <;> first | exact va_Nw.same rfl hv h1 | (simp [isN] at h2)
theorem nn_use {s : State} {args : Array Value} {w : Cond} (h : nn_ok s) (hw : w ∈ nn) : w.before args s = true := by
  have h1 := h w hw
  have h2 := (List.mem_filter.mp hw).2
  cases w <;> first | exact va_Nw.use rfl h1 | (simp [isN] at h2)
def al_ok (e0 : Nat) (A : Nat → Prop) (U : State) : Prop := va_Z "java/util/ArrayList" "DEFAULTCAPACITY_EMPTY_ELEMENTDATA" "[Ljava/lang/Object;" (.ref e0) A U U.heap ∧ va_T (.object "java/lang/Object") e0 0 (fun _ => .null) A U U.heap
def ex_ok (g : Gx) (A : Nat → Prop) (U : State) : Prop := va_K g.1 vwCl (tyz g.2.1) U ∧ nn_ok U ∧ al_ok g.2.2.1 A U ∧ va_Mi "[Ljava/lang/Object;" g.2.2.2 U ∧ va_AO "java/lang/Object" U
theorem ex_call {g : Gx} {A B : Nat → Prop} {s U : State} {H : Heap} {locs : List Loc} (h : ex_ok g A s) (hS : va_S A s.heap H locs) (hU : U.heap = H) (hW : s.WarmedH U.vm) (hAB : ∀ q, B q → A q) : ex_ok g B U := by
  obtain ⟨h1, h2, ⟨h3, h4⟩, h5, h6⟩ := h
  refine ⟨va_K.moved hW.alike h1, nn_warm hW h2, ⟨?_, ?_⟩, va_Mi.moved hW.alike h5, va_AO.moved hW.alike h6⟩
  · have z := (va_Z.moved hW.alike h3).kept (H1 := H) (fun a q1 q2 => hS.2.1 a q1 q2)
    rw [hU]
    exact z.narrow hAB
  · have z := (va_T.moved hW.alike h4).kept (H1 := H) (fun a q1 q2 => hS.2.1 a q1 q2)
    rw [hU]
    exact z.narrow hAB
theorem ex_blind {g : Gx} {A : Nat → Prop} {U : State} {f : JFrame} {mk : MethodId} {a : Array Value} (h : ex_ok g A U) : ex_ok g A (U.calling f mk a) := by
  obtain ⟨h1, h2, ⟨h3, h4⟩, h5, h6⟩ := h
  exact ⟨va_K.moved (u := U) (U := U.calling f mk a) (Vm.Alike.refl U.vm) h1, nn_same (s := U) (U := U.calling f mk a) rfl h2, ⟨va_Z.moved (u := U) (U := U.calling f mk a) (Vm.Alike.refl U.vm) h3, va_T.moved (u := U) (U := U.calling f mk a) (Vm.Alike.refl U.vm) h4⟩, va_Mi.moved (u := U) (U := U.calling f mk a) (Vm.Alike.refl U.vm) h5, va_AO.moved (u := U) (U := U.calling f mk a) (Vm.Alike.refl U.vm) h6⟩
/-- worlds by membership -/
theorem P_iff {D : va_G} {ws : va_W} {H : Heap} : va_P D vwCl ws H ↔ ∀ q ∈ ws, va_at D vwCl q H :=
  ⟨fun h q hq => by obtain ⟨i, hi⟩ := List.getElem?_of_mem hq; exact h i q hi, fun h _ q hk => h q (List.mem_of_getElem? hk)⟩
theorem D_iff {A : Nat → Prop} {ws : va_W} : va_D A ws ↔ (ws.map (fun q => q.1)).Nodup ∧ ∀ q ∈ ws, A q.1 := by
  constructor
  · intro h
    refine ⟨?_, fun q hq => by obtain ⟨i, hi⟩ := List.getElem?_of_mem hq; exact h.2 i q hi⟩
    refine List.pairwise_iff_getElem.mpr ?_
    intro i j hi hj hij he
    rw [List.length_map] at hi hj
    rw [List.getElem_map, List.getElem_map] at he
    have := h.1 i j ws[i] ws[j] (List.getElem?_eq_getElem hi) (List.getElem?_eq_getElem hj) he
    omega
  · rintro ⟨h1, h2⟩
    refine ⟨fun i j x y hi hj hxy => ?_, fun k q hk => h2 q (List.mem_of_getElem? hk)⟩
    have h3 := List.pairwise_iff_getElem.mp h1
    obtain ⟨li, ei⟩ := List.getElem?_eq_some_iff.mp hi
    obtain ⟨lj, ej⟩ := List.getElem?_eq_some_iff.mp hj
    rcases Nat.lt_trichotomy i j with q | q | q
    · exact absurd (by rw [List.getElem_map, List.getElem_map, ei, ej]; exact hxy) (h3 i j (by rw [List.length_map]; exact li) (by rw [List.length_map]; exact lj) q)
    · exact q
    · exact absurd (by rw [List.getElem_map, List.getElem_map, ei, ej]; exact hxy.symm) (h3 j i (by rw [List.length_map]; exact lj) (by rw [List.length_map]; exact li) q)
theorem D_perm {A : Nat → Prop} {w1 w2 : va_W} (h : w1.Perm w2) (hD : va_D A w1) : va_D A w2 := by
  rw [D_iff] at hD ⊢
  exact ⟨(h.map _).nodup_iff.mp hD.1, fun q hq => hD.2 q (h.mem_iff.mpr hq)⟩
theorem P_perm {D : va_G} {H : Heap} {w1 w2 : va_W} (h : w1.Perm w2) (hP : va_P D vwCl w1 H) : va_P D vwCl w2 H := by
  rw [P_iff] at hP ⊢
  exact fun q hq => hP q (h.mem_iff.mpr hq)
theorem D_left {A : Nat → Prop} {w1 w2 : va_W} (hD : va_D A (w1 ++ w2)) : va_D A w1 := by
  rw [D_iff] at hD ⊢
  rw [List.map_append, List.nodup_append] at hD
  exact ⟨hD.1.1, fun q hq => hD.2 q (List.mem_append_left _ hq)⟩
theorem D_right {A : Nat → Prop} {w1 w2 : va_W} (hD : va_D A (w1 ++ w2)) : va_D A w2 := by
  rw [D_iff] at hD ⊢
  rw [List.map_append, List.nodup_append] at hD
  exact ⟨hD.1.2.1, fun q hq => hD.2 q (List.mem_append_right _ hq)⟩
theorem P_left {D : va_G} {H : Heap} {w1 w2 : va_W} (h : va_P D vwCl (w1 ++ w2) H) : va_P D vwCl w1 H := by
  rw [P_iff] at h ⊢
  exact fun q hq => h q (List.mem_append_left _ hq)
theorem P_right {D : va_G} {H : Heap} {w1 w2 : va_W} (h : va_P D vwCl (w1 ++ w2) H) : va_P D vwCl w2 H := by
  rw [P_iff] at h ⊢
  exact fun q hq => h q (List.mem_append_right _ hq)
theorem D_apart {A : Nat → Prop} {w1 w2 : va_W} (hD : va_D A (w1 ++ w2)) : ∀ x ∈ w1, ∀ y ∈ w2, x.1 ≠ y.1 := by
  rw [D_iff, List.map_append, List.nodup_append] at hD
  exact fun x hx y hy => hD.1.2.2 x.1 (List.mem_map.mpr ⟨x, hx, rfl⟩) y.1 (List.mem_map.mpr ⟨y, hy, rfl⟩)
theorem D_app {A : Nat → Prop} {w1 w2 : va_W} (h1 : va_D A w1) (h2 : va_D A w2) (h : ∀ x ∈ w1, ∀ y ∈ w2, x.1 ≠ y.1) : va_D A (w1 ++ w2) := by
  rw [D_iff] at h1 h2 ⊢
  refine ⟨?_, fun q hq => (List.mem_append.mp hq).elim (h1.2 q) (h2.2 q)⟩
  rw [List.map_append, List.nodup_append]
  refine ⟨h1.1, h2.1, fun a ha b hb => ?_⟩
  obtain ⟨x, hx, rfl⟩ := List.mem_map.mp ha
  obtain ⟨y, hy, rfl⟩ := List.mem_map.mp hb
  exact h x hx y hy
/-- a part of a list, by places -/
def pk (X : va_W) (is : List Nat) : va_W := is.filterMap (fun i => X[i]?)
theorem pk_mem {X : va_W} {is : List Nat} {q : Nat × va_E} (h : q ∈ pk X is) : ∃ i ∈ is, X[i]? = some q := List.mem_filterMap.mp h
theorem pk_in' {X : va_W} {is : List Nat} {q : Nat × va_E} (h : q ∈ pk X is) : q ∈ X := by
  obtain ⟨i, -, hi⟩ := pk_mem h
  exact List.mem_of_getElem? hi
theorem pk_D {A : Nat → Prop} {X : va_W} (hD : va_D A X) : ∀ (is : List Nat), va_nd is = true → va_D A (pk X is)
  | [], _ => D_iff.mpr ⟨List.nodup_nil, fun _ h => absurd h List.not_mem_nil⟩
  | i :: is, hn => by
    simp only [va_nd, Bool.and_eq_true, decide_eq_true_eq] at hn
    have ih := pk_D hD is hn.2
    unfold pk at ih ⊢
    cases hi : X[i]? with
    | none => rw [List.filterMap_cons_none hi]; exact ih
    | some x =>
      rw [List.filterMap_cons_some hi]
      refine D_app (w1 := [x]) ?_ ih ?_
      · exact D_iff.mpr ⟨by simp, fun q hq => by rw [List.mem_singleton.mp hq]; exact hD.2 i x hi⟩
      · intro z hz y hy he
        rw [List.mem_singleton.mp hz] at he
        obtain ⟨j, hj, hjy⟩ := List.mem_filterMap.mp hy
        have := hD.1 i j x y hi hjy he
        subst this
        exact hn.1 hj
theorem pk_apart {A : Nat → Prop} {X : va_W} (hD : va_D A X) {i1 i2 : List Nat} (hn : ∀ i ∈ i1, i ∉ i2) : ∀ x ∈ pk X i1, ∀ y ∈ pk X i2, x.1 ≠ y.1 := by
  intro x hx y hy he
  obtain ⟨i, h1, h2⟩ := pk_mem hx
  obtain ⟨j, h3, h4⟩ := pk_mem hy
  have := hD.1 i j x y h2 h4 he
  subst this
  exact hn i h1 h3
/-- what holds of a walk: the machine, the tables, the exit -/
abbrev Kx : Type := (Program × Launch × Env × Room) × (State × MethodId × Array Value × List Frame × Method × Code) × (Gx × (Nat → Prop)) × (State → Prop)
abbrev Ex : Type := Option Value → va_W → va_W → Prop
def QE (g : Gx) (A : Nat → Prop) (E : Ex) : Array Value → State → Outcome → State → Prop := fun _ st oc t => (∃ v X' P', oc = .returned v ∧ E v X' P' ∧ va_P g.1 vwCl (X' ++ P') t.heap ∧ va_D A (X' ++ P')) ∧ va_F A st t
def G (κ : Kx) (nL cells slots pc : Nat) (lv : List (Nat × Value)) (st : List Value) (X P : va_W) : Prop :=
  ∀ (H : Heap) (locs : List Loc) (ls : Array Slot), lv_has ls nL lv → va_P κ.2.2.1.1.1 vwCl (X ++ P) H → va_D κ.2.2.1.2 (X ++ P) → va_S κ.2.2.1.2 κ.2.1.1.heap H locs → W κ.1.1 κ.1.2.1 κ.1.2.2.1 κ.1.2.2.2 κ.2.1.1 κ.2.1.2.1 κ.2.1.2.2.1 κ.2.1.2.2.2.1 κ.2.1.2.2.2.2.1 κ.2.1.2.2.2.2.2 H locs cells slots κ.2.2.2 (F0 κ.2.1.2.1 pc ls st)
def zC (κ : Kx) (l : Launch) (g : Gx) (R : Room) (cc : ByteArray) (nL : Nat) (own name : String) (ret : Option FieldType) (E : Ex) : Prop :=
  κ.1.2.1 = l ∧ κ.2.2.1.1 = g ∧ κ.1.2.2.2 = R ∧ κ.1.1.tables.exec = Jvm.exec ∧ κ.2.1.2.2.2.2.2.code = cc ∧ κ.2.1.2.2.2.2.2.maxLocals = nL ∧ κ.2.1.1.vm.findClass own = some κ.2.1.2.1.cls ∧ (∀ w ∈ big, w.before κ.2.1.2.2.1 κ.2.1.1 = true) ∧ ex_ok g κ.2.2.1.2 κ.2.1.1 ∧ (∀ q, κ.2.1.1.heap.size ≤ q → κ.2.2.1.2 q) ∧ κ.2.1.2.2.2.2.1.sig.returnType = ret ∧ κ.2.1.2.2.2.2.1.locks = false ∧ κ.2.1.2.2.2.2.1.name = name ∧ κ.2.2.2 = MQ κ.2.1.2.2.2.1 (QE g κ.2.2.1.2 E) κ.2.1.2.2.1 κ.2.1.1 R.cells R.slots κ.2.2.1.2
/-- a method's contract: from the world X ++ P, with these arguments, it ends as E says -/
def MP (l : Launch) (g : Gx) (y : MethodName) (cc : ByteArray) (nL : Nat) (ret : Option FieldType) (rm : Room) (args : List Value) (X P : va_W) (E : Ex) : Prop :=
  ∀ sz : Nat, Met l y (.code y cc nL ret :: big) rm (va_Pc args (fun U => U.heap.size = sz ∧ va_P g.1 vwCl (X ++ P) U.heap ∧ va_D (fun _ => True) (X ++ P) ∧ ex_ok g (va_A (X ++ P) sz) U)) (QE g (va_A (X ++ P) sz) E) rm.cells rm.slots (va_A (X ++ P) sz)
set_option maxHeartbeats 4000000 in
theorem MP.of {l : Launch} {g : Gx} {y : MethodName} {cc : ByteArray} {nL : Nat} {ret : Option FieldType} {rm : Room} {args : List Value} {X P : va_W} {E : Ex} (hpl : plainName y.cls = true) (hlen : (lg_sl args).length ≤ nL) (body : ∀ κ : Kx, zC κ l g rm cc nL y.cls y.name ret E → G κ nL 0 0 0 (lv_args 0 args) [] X P) : MP l g y cc nL ret rm args X P E := by
  intro sz
  refine Met.ofW (cc := cc) (maxL := nL) (ret := ret) hpl rfl ?_
  intro p e s m args' below meth c s₁ B hml hv
  obtain ⟨rfl, hsz, hP, hD0, hex⟩ := hv
  subst hsz
  have hts := atoms_spec (ws := .code y cc nL ret :: big) B.pre
  have hl := lv_entry args hlen
  rw [lg_entry_eq]
  have hb := body ((p, l, e, rm), (s, m, args.toArray, below, meth, c), (g, va_A (X ++ P) s.heap.size), MQ below (QE g (va_A (X ++ P) s.heap.size) E) args.toArray s rm.cells rm.slots (va_A (X ++ P) s.heap.size)) ⟨rfl, rfl, rfl, B.exec, B.bytes, hml, findClass_of_methodNamed B.named, fun w hw => hts w (List.mem_cons_of_mem _ hw), hex, fun q hq => Or.inr hq, B.returns, B.notSynchronized, (name_of_methodNamed B.named B.method).1, rfl⟩
  exact hb s.heap [] _ hl hP (hD0.self (sz := s.heap.size)) va_S.rf
end
section
section GR
variable {κ : Kx} {l : Launch} {g : Gx} {R : Room} {cc : ByteArray} {nL : Nat} {own name : String} {ret : Option FieldType} {E : Ex} {cs ss pc q : Nat} {lv : List (Nat × Value)} {st : List Value} {X P : va_W}
theorem zC.w (C : zC κ l g R cc nL own name ret E) {w : Cond} (h : w ∈ big) : w.before κ.2.1.2.2.1 κ.2.1.1 = true := C.2.2.2.2.2.2.2.1 w h
theorem zC.nw (C : zC κ l g R cc nL own name ret E) {w : Cond} (h : w ∈ nn) : w.before κ.2.1.2.2.1 κ.2.1.1 = true := nn_use C.2.2.2.2.2.2.2.2.1.2.1 h
theorem zC.K (C : zC κ l g R cc nL own name ret E) : va_K κ.2.2.1.1.1 vwCl (tyz κ.2.2.1.1.2.1) κ.2.1.1 := by rw [C.2.1]; exact C.2.2.2.2.2.2.2.2.1.1
theorem zC.ex (C : zC κ l g R cc nL own name ret E) : ex_ok g κ.2.2.1.2 κ.2.1.1 := C.2.2.2.2.2.2.2.2.1
theorem zC.A (C : zC κ l g R cc nL own name ret E) : ∀ q, κ.2.1.1.heap.size ≤ q → κ.2.2.1.2 q := C.2.2.2.2.2.2.2.2.2.1
theorem g_iadd (C : zC κ l g R cc nL own name ret E) {x y : Int32} (hd : dz cc pc (.iadd) 1 q) (k : G κ nL cs ss q lv (.int (x + y) :: st) X P) : G κ nL cs ss pc lv (.int y :: .int x :: st) X P := by
  obtain ⟨hd, rfl⟩ := hd
  intro H locs ls hl hP hD hS
  exact lv_iadd C.2.2.2.1 C.2.2.2.2.1 hd (k H locs ls hl hP hD hS)
theorem g_isub (C : zC κ l g R cc nL own name ret E) {x y : Int32} (hd : dz cc pc (.isub) 1 q) (k : G κ nL cs ss q lv (.int (x - y) :: st) X P) : G κ nL cs ss pc lv (.int y :: .int x :: st) X P := by
  obtain ⟨hd, rfl⟩ := hd
  intro H locs ls hl hP hD hS
  exact lv_isub C.2.2.2.1 C.2.2.2.2.1 hd (k H locs ls hl hP hD hS)
theorem g_imul (C : zC κ l g R cc nL own name ret E) {x y : Int32} (hd : dz cc pc (.imul) 1 q) (k : G κ nL cs ss q lv (.int (x * y) :: st) X P) : G κ nL cs ss pc lv (.int y :: .int x :: st) X P := by
  obtain ⟨hd, rfl⟩ := hd
  intro H locs ls hl hP hD hS
  exact lv_imul C.2.2.2.1 C.2.2.2.2.1 hd (k H locs ls hl hP hD hS)
theorem g_iand (C : zC κ l g R cc nL own name ret E) {x y : Int32} (hd : dz cc pc (.iand) 1 q) (k : G κ nL cs ss q lv (.int (x &&& y) :: st) X P) : G κ nL cs ss pc lv (.int y :: .int x :: st) X P := by
  obtain ⟨hd, rfl⟩ := hd
  intro H locs ls hl hP hD hS
  exact lv_iand C.2.2.2.1 C.2.2.2.2.1 hd (k H locs ls hl hP hD hS)
theorem g_ior (C : zC κ l g R cc nL own name ret E) {x y : Int32} (hd : dz cc pc (.ior) 1 q) (k : G κ nL cs ss q lv (.int (x ||| y) :: st) X P) : G κ nL cs ss pc lv (.int y :: .int x :: st) X P := by
  obtain ⟨hd, rfl⟩ := hd
  intro H locs ls hl hP hD hS
  exact lv_ior C.2.2.2.1 C.2.2.2.2.1 hd (k H locs ls hl hP hD hS)
theorem g_ixor (C : zC κ l g R cc nL own name ret E) {x y : Int32} (hd : dz cc pc (.ixor) 1 q) (k : G κ nL cs ss q lv (.int (x ^^^ y) :: st) X P) : G κ nL cs ss pc lv (.int y :: .int x :: st) X P := by
  obtain ⟨hd, rfl⟩ := hd
  intro H locs ls hl hP hD hS
  exact lv_ixor C.2.2.2.1 C.2.2.2.2.1 hd (k H locs ls hl hP hD hS)
theorem g_ladd (C : zC κ l g R cc nL own name ret E) {x y : Int64} (hd : dz cc pc (.ladd) 1 q) (k : G κ nL cs ss q lv (.long (x + y) :: st) X P) : G κ nL cs ss pc lv (.long y :: .long x :: st) X P := by
  obtain ⟨hd, rfl⟩ := hd
  intro H locs ls hl hP hD hS
  exact lv_ladd C.2.2.2.1 C.2.2.2.2.1 hd (k H locs ls hl hP hD hS)
theorem g_lmul (C : zC κ l g R cc nL own name ret E) {x y : Int64} (hd : dz cc pc (.lmul) 1 q) (k : G κ nL cs ss q lv (.long (x * y) :: st) X P) : G κ nL cs ss pc lv (.long y :: .long x :: st) X P := by
  obtain ⟨hd, rfl⟩ := hd
  intro H locs ls hl hP hD hS
  exact lv_lmul C.2.2.2.1 C.2.2.2.2.1 hd (k H locs ls hl hP hD hS)
theorem g_land (C : zC κ l g R cc nL own name ret E) {x y : Int64} (hd : dz cc pc (.land) 1 q) (k : G κ nL cs ss q lv (.long (x &&& y) :: st) X P) : G κ nL cs ss pc lv (.long y :: .long x :: st) X P := by
  obtain ⟨hd, rfl⟩ := hd
  intro H locs ls hl hP hD hS
  exact lv_land C.2.2.2.1 C.2.2.2.2.1 hd (k H locs ls hl hP hD hS)
theorem g_lor (C : zC κ l g R cc nL own name ret E) {x y : Int64} (hd : dz cc pc (.lor) 1 q) (k : G κ nL cs ss q lv (.long (x ||| y) :: st) X P) : G κ nL cs ss pc lv (.long y :: .long x :: st) X P := by
  obtain ⟨hd, rfl⟩ := hd
  intro H locs ls hl hP hD hS
  exact lv_lor C.2.2.2.1 C.2.2.2.2.1 hd (k H locs ls hl hP hD hS)
theorem g_ishl (C : zC κ l g R cc nL own name ret E) {x y : Int32} (hd : dz cc pc (.ishl) 1 q) (k : G κ nL cs ss q lv (.int (x <<< (y &&& 31)) :: st) X P) : G κ nL cs ss pc lv (.int y :: .int x :: st) X P := by
  obtain ⟨hd, rfl⟩ := hd
  intro H locs ls hl hP hD hS
  exact lv_ishl C.2.2.2.1 C.2.2.2.2.1 hd (k H locs ls hl hP hD hS)
theorem g_ishr (C : zC κ l g R cc nL own name ret E) {x y : Int32} (hd : dz cc pc (.ishr) 1 q) (k : G κ nL cs ss q lv (.int (x >>> (y &&& 31)) :: st) X P) : G κ nL cs ss pc lv (.int y :: .int x :: st) X P := by
  obtain ⟨hd, rfl⟩ := hd
  intro H locs ls hl hP hD hS
  exact lv_ishr C.2.2.2.1 C.2.2.2.2.1 hd (k H locs ls hl hP hD hS)
theorem g_iushr (C : zC κ l g R cc nL own name ret E) {x y v : Int32} (hv : (x.toUInt32 >>> (y.toUInt32 &&& Int32.toUInt32 31)).toInt32 = v) (hd : dz cc pc (.iushr) 1 q) (k : G κ nL cs ss q lv (.int v :: st) X P) : G κ nL cs ss pc lv (.int y :: .int x :: st) X P := by
  obtain ⟨hd, rfl⟩ := hd
  intro H locs ls hl hP hD hS
  exact lv_iushr C.2.2.2.1 C.2.2.2.2.1 hd hv (k H locs ls hl hP hD hS)
theorem g_lshl (C : zC κ l g R cc nL own name ret E) {x v : Int64} {y : Int32} (hv : x <<< (y.toInt64 &&& 63) = v) (hd : dz cc pc (.lshl) 1 q) (k : G κ nL cs ss q lv (.long v :: st) X P) : G κ nL cs ss pc lv (.int y :: .long x :: st) X P := by
  obtain ⟨hd, rfl⟩ := hd
  intro H locs ls hl hP hD hS
  exact lv_lshl C.2.2.2.1 C.2.2.2.2.1 hd hv (k H locs ls hl hP hD hS)
theorem g_lushr (C : zC κ l g R cc nL own name ret E) {x v : Int64} {y : Int32} (hv : (x.toUInt64 >>> (y.toInt64.toUInt64 &&& Int64.toUInt64 63)).toInt64 = v) (hd : dz cc pc (.lushr) 1 q) (k : G κ nL cs ss q lv (.long v :: st) X P) : G κ nL cs ss pc lv (.int y :: .long x :: st) X P := by
  obtain ⟨hd, rfl⟩ := hd
  intro H locs ls hl hP hD hS
  exact lv_lushr C.2.2.2.1 C.2.2.2.2.1 hd hv (k H locs ls hl hP hD hS)
theorem g_idiv (C : zC κ l g R cc nL own name ret E) {x y : Int32} (hne : ¬ y = 0) (hd : dz cc pc (.idiv) 1 q) (k : G κ nL cs ss q lv (.int (x / y) :: st) X P) : G κ nL cs ss pc lv (.int y :: .int x :: st) X P := by
  obtain ⟨hd, rfl⟩ := hd
  intro H locs ls hl hP hD hS
  exact lv_idiv C.2.2.2.1 C.2.2.2.2.1 hd hne (k H locs ls hl hP hD hS)
theorem g_irem (C : zC κ l g R cc nL own name ret E) {x y : Int32} (hne : ¬ y = 0) (hd : dz cc pc (.irem) 1 q) (k : G κ nL cs ss q lv (.int (x - x / y * y) :: st) X P) : G κ nL cs ss pc lv (.int y :: .int x :: st) X P := by
  obtain ⟨hd, rfl⟩ := hd
  intro H locs ls hl hP hD hS
  exact lv_irem C.2.2.2.1 C.2.2.2.2.1 hd hne (k H locs ls hl hP hD hS)
theorem g_ineg (C : zC κ l g R cc nL own name ret E) {x : Int32} (hd : dz cc pc (.ineg) 1 q) (k : G κ nL cs ss q lv (.int (-x) :: st) X P) : G κ nL cs ss pc lv (.int x :: st) X P := by
  obtain ⟨hd, rfl⟩ := hd
  intro H locs ls hl hP hD hS
  exact lv_ineg C.2.2.2.1 C.2.2.2.2.1 hd (k H locs ls hl hP hD hS)
theorem g_i2l (C : zC κ l g R cc nL own name ret E) {x : Int32} (hd : dz cc pc (.i2l) 1 q) (k : G κ nL cs ss q lv (.long x.toInt64 :: st) X P) : G κ nL cs ss pc lv (.int x :: st) X P := by
  obtain ⟨hd, rfl⟩ := hd
  intro H locs ls hl hP hD hS
  exact lv_i2l C.2.2.2.1 C.2.2.2.2.1 hd rfl (k H locs ls hl hP hD hS)
theorem g_l2i (C : zC κ l g R cc nL own name ret E) {x : Int64} (hd : dz cc pc (.l2i) 1 q) (k : G κ nL cs ss q lv (.int x.toInt32 :: st) X P) : G κ nL cs ss pc lv (.long x :: st) X P := by
  obtain ⟨hd, rfl⟩ := hd
  intro H locs ls hl hP hD hS
  exact lv_l2i C.2.2.2.1 C.2.2.2.2.1 hd rfl (k H locs ls hl hP hD hS)
theorem g_i2b (C : zC κ l g R cc nL own name ret E) {x : Int32} (hd : dz cc pc (.i2b) 1 q) (k : G κ nL cs ss q lv (.int x.toInt8.toInt32 :: st) X P) : G κ nL cs ss pc lv (.int x :: st) X P := by
  obtain ⟨hd, rfl⟩ := hd
  intro H locs ls hl hP hD hS
  exact lv_i2b C.2.2.2.1 C.2.2.2.2.1 hd rfl (k H locs ls hl hP hD hS)
theorem g_lcmp (C : zC κ l g R cc nL own name ret E) {x y : Int64} (hd : dz cc pc (.lcmp) 1 q) (k : G κ nL cs ss q lv (.int (lg_cmp x y) :: st) X P) : G κ nL cs ss pc lv (.long y :: .long x :: st) X P := by
  obtain ⟨hd, rfl⟩ := hd
  intro H locs ls hl hP hD hS
  exact W.lcmp C.2.2.2.1 C.2.2.2.2.1 hd (k H locs ls hl hP hD hS)
theorem g_iconst (C : zC κ l g R cc nL own name ret E) {n : Int} {v : Int32} (hv : Int32.ofInt n = v) (hd : dz cc pc (.iconst n) 1 q) (k : G κ nL cs ss q lv (.int v :: st) X P) : G κ nL cs ss pc lv st X P := by
  obtain ⟨hd, rfl⟩ := hd
  intro H locs ls hl hP hD hS
  exact lv_iconst C.2.2.2.1 C.2.2.2.2.1 hd hv (k H locs ls hl hP hD hS)
theorem g_bipush (C : zC κ l g R cc nL own name ret E) {n : Int} {v : Int32} (hv : (Int8.ofInt n).toInt32 = v) (hd : dz cc pc (.bipush n) 2 q) (k : G κ nL cs ss q lv (.int v :: st) X P) : G κ nL cs ss pc lv st X P := by
  obtain ⟨hd, rfl⟩ := hd
  intro H locs ls hl hP hD hS
  exact lv_bipush C.2.2.2.1 C.2.2.2.2.1 hd hv (k H locs ls hl hP hD hS)
theorem g_sipush (C : zC κ l g R cc nL own name ret E) {n : Int} {v : Int32} (hv : (Int16.ofInt n).toInt32 = v) (hd : dz cc pc (.sipush n) 3 q) (k : G κ nL cs ss q lv (.int v :: st) X P) : G κ nL cs ss pc lv st X P := by
  obtain ⟨hd, rfl⟩ := hd
  intro H locs ls hl hP hD hS
  exact lv_sipush C.2.2.2.1 C.2.2.2.2.1 hd hv (k H locs ls hl hP hD hS)
theorem g_lconst (C : zC κ l g R cc nL own name ret E) {n : Fin 2} {v : Int64} (hv : Int64.ofNat (n : Nat) = v) (hd : dz cc pc (.lconst n) 1 q) (k : G κ nL cs ss q lv (.long v :: st) X P) : G κ nL cs ss pc lv st X P := by
  obtain ⟨hd, rfl⟩ := hd
  intro H locs ls hl hP hD hS
  exact lv_lconst C.2.2.2.1 C.2.2.2.2.1 hd hv (k H locs ls hl hP hD hS)
theorem g_ldc (C : zC κ l g R cc nL own name ret E) {index : Nat} {v : Int32} (hw : Cond.constant own index v ∈ big) (hd : dz cc pc (.ldc index) 2 q) (k : G κ nL cs ss q lv (.int v :: st) X P) : G κ nL cs ss pc lv st X P := by
  obtain ⟨hd, rfl⟩ := hd
  intro H locs ls hl hP hD hS
  exact lv_ldc C.2.2.2.1 C.2.2.2.2.1 C.2.2.2.2.2.2.1 (C.w hw) hd (k H locs ls hl hP hD hS)
theorem g_ldcw (C : zC κ l g R cc nL own name ret E) {index : Nat} {v : Int32} (hw : Cond.constant own index v ∈ big) (hd : dz cc pc (.ldc_w index) 3 q) (k : G κ nL cs ss q lv (.int v :: st) X P) : G κ nL cs ss pc lv st X P := by
  obtain ⟨hd, rfl⟩ := hd
  intro H locs ls hl hP hD hS
  exact lv_ldcw C.2.2.2.1 C.2.2.2.2.1 C.2.2.2.2.2.2.1 (C.w hw) hd (k H locs ls hl hP hD hS)
theorem g_ldc2 (C : zC κ l g R cc nL own name ret E) {index : Nat} {v : Int64} (hw : Cond.constantLong own index v ∈ big) (hd : dz cc pc (.ldc2_w index) 3 q) (k : G κ nL cs ss q lv (.long v :: st) X P) : G κ nL cs ss pc lv st X P := by
  obtain ⟨hd, rfl⟩ := hd
  intro H locs ls hl hP hD hS
  exact lv_ldc2 C.2.2.2.1 C.2.2.2.2.1 C.2.2.2.2.2.2.1 (C.w hw) hd (k H locs ls hl hP hD hS)
theorem g_null (C : zC κ l g R cc nL own name ret E)  (hd : dz cc pc (.aconst_null) 1 q) (k : G κ nL cs ss q lv (.null :: st) X P) : G κ nL cs ss pc lv st X P := by
  obtain ⟨hd, rfl⟩ := hd
  intro H locs ls hl hP hD hS
  exact lv_null C.2.2.2.1 C.2.2.2.2.1 hd (k H locs ls hl hP hD hS)
theorem g_dup (C : zC κ l g R cc nL own name ret E) {va : Value} (hva : va.category = 1) (hd : dz cc pc (.dup) 1 q) (k : G κ nL cs ss q lv (va :: va :: st) X P) : G κ nL cs ss pc lv (va :: st) X P := by
  obtain ⟨hd, rfl⟩ := hd
  intro H locs ls hl hP hD hS
  exact lv_dup C.2.2.2.1 C.2.2.2.2.1 hd hva (k H locs ls hl hP hD hS)
theorem g_pop (C : zC κ l g R cc nL own name ret E) {va : Value} (hva : va.category = 1) (hd : dz cc pc (.pop) 1 q) (k : G κ nL cs ss q lv st X P) : G κ nL cs ss pc lv (va :: st) X P := by
  obtain ⟨hd, rfl⟩ := hd
  intro H locs ls hl hP hD hS
  exact lv_pop C.2.2.2.1 C.2.2.2.2.1 hd hva (k H locs ls hl hP hD hS)
theorem g_dup2 (C : zC κ l g R cc nL own name ret E) {va vb : Value} (hva : va.category = 1) (hvb : vb.category = 1) (hd : dz cc pc (.dup2) 1 q) (k : G κ nL cs ss q lv (va :: vb :: va :: vb :: st) X P) : G κ nL cs ss pc lv (va :: vb :: st) X P := by
  obtain ⟨hd, rfl⟩ := hd
  intro H locs ls hl hP hD hS
  exact lv_dup2_11 C.2.2.2.1 C.2.2.2.2.1 hd hva hvb (k H locs ls hl hP hD hS)
theorem g_dup_x1 (C : zC κ l g R cc nL own name ret E) {va vb : Value} (hva : va.category = 1) (hvb : vb.category = 1) (hd : dz cc pc (.dup_x1) 1 q) (k : G κ nL cs ss q lv (va :: vb :: va :: st) X P) : G κ nL cs ss pc lv (va :: vb :: st) X P := by
  obtain ⟨hd, rfl⟩ := hd
  intro H locs ls hl hP hD hS
  exact lv_dup_x1 C.2.2.2.1 C.2.2.2.2.1 hd hva hvb (k H locs ls hl hP hD hS)
theorem g_iload_n (C : zC κ l g R cc nL own name ret E) {k4 : Fin 4} {x : Int32} (i : Nat) (hk : lv[i]? = some ((k4 : Nat), .int x)) (hd : dz cc pc (.iload_n k4) 1 q) (k : G κ nL cs ss q lv (.int x :: st) X P) : G κ nL cs ss pc lv st X P := by
  obtain ⟨hd, rfl⟩ := hd
  intro H locs ls hl hP hD hS
  exact lv_iload_n C.2.2.2.1 C.2.2.2.2.1 hd rfl (lv_at hl i hk) (k H locs ls hl hP hD hS)
theorem g_iload (C : zC κ l g R cc nL own name ret E) {j : Nat} {x : Int32} (i : Nat) (hk : lv[i]? = some (j, .int x)) (hd : dz cc pc (.iload j) 2 q) (k : G κ nL cs ss q lv (.int x :: st) X P) : G κ nL cs ss pc lv st X P := by
  obtain ⟨hd, rfl⟩ := hd
  intro H locs ls hl hP hD hS
  exact lv_iload C.2.2.2.1 C.2.2.2.2.1 hd (lv_at hl i hk) (k H locs ls hl hP hD hS)
theorem g_lload_n (C : zC κ l g R cc nL own name ret E) {k4 : Fin 4} {x : Int64} (i : Nat) (hk : lv[i]? = some ((k4 : Nat), .long x)) (hd : dz cc pc (.lload_n k4) 1 q) (k : G κ nL cs ss q lv (.long x :: st) X P) : G κ nL cs ss pc lv st X P := by
  obtain ⟨hd, rfl⟩ := hd
  intro H locs ls hl hP hD hS
  exact lv_lload_n C.2.2.2.1 C.2.2.2.2.1 hd rfl (lv_at hl i hk) (k H locs ls hl hP hD hS)
theorem g_lload (C : zC κ l g R cc nL own name ret E) {j : Nat} {x : Int64} (i : Nat) (hk : lv[i]? = some (j, .long x)) (hd : dz cc pc (.lload j) 2 q) (k : G κ nL cs ss q lv (.long x :: st) X P) : G κ nL cs ss pc lv st X P := by
  obtain ⟨hd, rfl⟩ := hd
  intro H locs ls hl hP hD hS
  exact lv_lload C.2.2.2.1 C.2.2.2.2.1 hd (lv_at hl i hk) (k H locs ls hl hP hD hS)
theorem g_aload_n (C : zC κ l g R cc nL own name ret E) {k4 : Fin 4} {x : Nat} (i : Nat) (hk : lv[i]? = some ((k4 : Nat), .ref x)) (hd : dz cc pc (.aload_n k4) 1 q) (k : G κ nL cs ss q lv (.ref x :: st) X P) : G κ nL cs ss pc lv st X P := by
  obtain ⟨hd, rfl⟩ := hd
  intro H locs ls hl hP hD hS
  exact lv_aload_n C.2.2.2.1 C.2.2.2.2.1 hd rfl (lv_at hl i hk) (k H locs ls hl hP hD hS)
theorem g_aload (C : zC κ l g R cc nL own name ret E) {j : Nat} {x : Nat} (i : Nat) (hk : lv[i]? = some (j, .ref x)) (hd : dz cc pc (.aload j) 2 q) (k : G κ nL cs ss q lv (.ref x :: st) X P) : G κ nL cs ss pc lv st X P := by
  obtain ⟨hd, rfl⟩ := hd
  intro H locs ls hl hP hD hS
  exact lv_aload C.2.2.2.1 C.2.2.2.2.1 hd (lv_at hl i hk) (k H locs ls hl hP hD hS)
theorem g_istore (C : zC κ l g R cc nL own name ret E) {j : Nat} {x : Int32} {lv1 : List (Nat × Value)} (hd : dz cc pc (.istore j) 2 q) (ks : List Nat) (hn : j < nL) (hk : lv_pick ((j, Value.int x) :: lv.filter (fun q => !(q.1 == j) && !(q.1 + 1 == j && q.2.category == 2))) ks = lv1) (k : G κ nL cs ss q lv1 st X P) : G κ nL cs ss pc lv (.int x :: st) X P := by
  obtain ⟨hd, rfl⟩ := hd
  intro H locs ls hl hP hD hS
  exact lv_istore C.2.2.2.1 C.2.2.2.2.1 hd hl hn rfl (fun ls1 h1 => k H locs ls1 (lv_sub h1 ks hk) hP hD hS)
theorem g_istore_n (C : zC κ l g R cc nL own name ret E) {k4 : Fin 4} {x : Int32} {lv1 : List (Nat × Value)} (hd : dz cc pc (.istore_n k4) 1 q) (ks : List Nat) (hn : (k4 : Nat) < nL) (hk : lv_pick (((k4 : Nat), Value.int x) :: lv.filter (fun q => !(q.1 == (k4 : Nat)) && !(q.1 + 1 == (k4 : Nat) && q.2.category == 2))) ks = lv1) (k : G κ nL cs ss q lv1 st X P) : G κ nL cs ss pc lv (.int x :: st) X P := by
  obtain ⟨hd, rfl⟩ := hd
  intro H locs ls hl hP hD hS
  exact lv_istore_n C.2.2.2.1 C.2.2.2.2.1 hd rfl hl hn rfl (fun ls1 h1 => k H locs ls1 (lv_sub h1 ks hk) hP hD hS)
theorem g_lstore (C : zC κ l g R cc nL own name ret E) {j : Nat} {x : Int64} {lv1 : List (Nat × Value)} (hd : dz cc pc (.lstore j) 2 q) (ks : List Nat) (hn : j + 1 < nL) (hk : lv_pick ((j, Value.long x) :: lv.filter (fun q => !(q.1 == j) && (!(q.1 == j + 1) && !(q.1 + 1 == j && q.2.category == 2)))) ks = lv1) (k : G κ nL cs ss q lv1 st X P) : G κ nL cs ss pc lv (.long x :: st) X P := by
  obtain ⟨hd, rfl⟩ := hd
  intro H locs ls hl hP hD hS
  exact lv_lstore C.2.2.2.1 C.2.2.2.2.1 hd hl hn rfl (fun ls1 h1 => k H locs ls1 (lv_sub h1 ks hk) hP hD hS)
theorem g_lstore_n (C : zC κ l g R cc nL own name ret E) {k4 : Fin 4} {x : Int64} {lv1 : List (Nat × Value)} (hd : dz cc pc (.lstore_n k4) 1 q) (ks : List Nat) (hn : (k4 : Nat) + 1 < nL) (hk : lv_pick (((k4 : Nat), Value.long x) :: lv.filter (fun q => !(q.1 == (k4 : Nat)) && (!(q.1 == (k4 : Nat) + 1) && !(q.1 + 1 == (k4 : Nat) && q.2.category == 2)))) ks = lv1) (k : G κ nL cs ss q lv1 st X P) : G κ nL cs ss pc lv (.long x :: st) X P := by
  obtain ⟨hd, rfl⟩ := hd
  intro H locs ls hl hP hD hS
  exact lv_lstore_n C.2.2.2.1 C.2.2.2.2.1 hd rfl hl hn rfl (fun ls1 h1 => k H locs ls1 (lv_sub h1 ks hk) hP hD hS)
theorem g_astore (C : zC κ l g R cc nL own name ret E) {j : Nat} {x : Nat} {lv1 : List (Nat × Value)} (hd : dz cc pc (.astore j) 2 q) (ks : List Nat) (hn : j < nL) (hk : lv_pick ((j, Value.ref x) :: lv.filter (fun q => !(q.1 == j) && !(q.1 + 1 == j && q.2.category == 2))) ks = lv1) (k : G κ nL cs ss q lv1 st X P) : G κ nL cs ss pc lv (.ref x :: st) X P := by
  obtain ⟨hd, rfl⟩ := hd
  intro H locs ls hl hP hD hS
  exact lv_astore C.2.2.2.1 C.2.2.2.2.1 hd hl hn rfl (fun ls1 h1 => k H locs ls1 (lv_sub h1 ks hk) hP hD hS)
theorem g_astore_n (C : zC κ l g R cc nL own name ret E) {k4 : Fin 4} {x : Nat} {lv1 : List (Nat × Value)} (hd : dz cc pc (.astore_n k4) 1 q) (ks : List Nat) (hn : (k4 : Nat) < nL) (hk : lv_pick (((k4 : Nat), Value.ref x) :: lv.filter (fun q => !(q.1 == (k4 : Nat)) && !(q.1 + 1 == (k4 : Nat) && q.2.category == 2))) ks = lv1) (k : G κ nL cs ss q lv1 st X P) : G κ nL cs ss pc lv (.ref x :: st) X P := by
  obtain ⟨hd, rfl⟩ := hd
  intro H locs ls hl hP hD hS
  exact lv_astore_n C.2.2.2.1 C.2.2.2.2.1 hd rfl hl hn rfl (fun ls1 h1 => k H locs ls1 (lv_sub h1 ks hk) hP hD hS)
theorem g_iinc (C : zC κ l g R cc nL own name ret E) {j : Nat} {n : Int} {x v : Int32} {lv1 : List (Nat × Value)} (hd : dz cc pc (.iinc j n) 3 q) (i : Nat) (hi : lv[i]? = some (j, .int x)) (hv : x + Int32.ofInt n = v) (ks : List Nat) (hn : j < nL) (hk : lv_pick ((j, Value.int v) :: lv.filter (fun q => !(q.1 == j) && !(q.1 + 1 == j && q.2.category == 2))) ks = lv1) (k : G κ nL cs ss q lv1 st X P) : G κ nL cs ss pc lv st X P := by
  obtain ⟨hd, rfl⟩ := hd
  intro H locs ls hl hP hD hS
  exact lv_iinc C.2.2.2.1 C.2.2.2.2.1 hd hl hi hv hn rfl (fun ls1 h1 => k H locs ls1 (lv_sub h1 ks hk) hP hD hS)
theorem g_if_eq (C : zC κ l g R cc nL own name ret E) {x : Int32} {tgt : Nat} (hd : dj cc pc (.ifCond .eq) q tgt) (kt : x = 0 → G κ nL cs ss tgt lv st X P) (kf : ¬ x = 0 → G κ nL cs ss q lv st X P) : G κ nL cs ss pc lv (.int x :: st) X P := by
  obtain ⟨off, hd, rfl, ht⟩ := hd
  intro H locs ls hl hP hD hS
  exact lv_if_eq C.2.2.2.1 C.2.2.2.2.1 hd ht (fun h => kt h H locs ls hl hP hD hS) (fun h => kf h H locs ls hl hP hD hS)
theorem g_icmp_eq (C : zC κ l g R cc nL own name ret E) {x y : Int32} {tgt : Nat} (hd : dj cc pc (.if_icmp .eq) q tgt) (kt : x = y → G κ nL cs ss tgt lv st X P) (kf : ¬ x = y → G κ nL cs ss q lv st X P) : G κ nL cs ss pc lv (.int y :: .int x :: st) X P := by
  obtain ⟨off, hd, rfl, ht⟩ := hd
  intro H locs ls hl hP hD hS
  exact lv_icmp_eq C.2.2.2.1 C.2.2.2.2.1 hd ht (fun h => kt h H locs ls hl hP hD hS) (fun h => kf h H locs ls hl hP hD hS)
theorem g_if_ne (C : zC κ l g R cc nL own name ret E) {x : Int32} {tgt : Nat} (hd : dj cc pc (.ifCond .ne) q tgt) (kt : ¬ x = 0 → G κ nL cs ss tgt lv st X P) (kf : x = 0 → G κ nL cs ss q lv st X P) : G κ nL cs ss pc lv (.int x :: st) X P := by
  obtain ⟨off, hd, rfl, ht⟩ := hd
  intro H locs ls hl hP hD hS
  exact lv_if_ne C.2.2.2.1 C.2.2.2.2.1 hd ht (fun h => kt h H locs ls hl hP hD hS) (fun h => kf h H locs ls hl hP hD hS)
theorem g_icmp_ne (C : zC κ l g R cc nL own name ret E) {x y : Int32} {tgt : Nat} (hd : dj cc pc (.if_icmp .ne) q tgt) (kt : ¬ x = y → G κ nL cs ss tgt lv st X P) (kf : x = y → G κ nL cs ss q lv st X P) : G κ nL cs ss pc lv (.int y :: .int x :: st) X P := by
  obtain ⟨off, hd, rfl, ht⟩ := hd
  intro H locs ls hl hP hD hS
  exact lv_icmp_ne C.2.2.2.1 C.2.2.2.2.1 hd ht (fun h => kt h H locs ls hl hP hD hS) (fun h => kf h H locs ls hl hP hD hS)
theorem g_if_lt (C : zC κ l g R cc nL own name ret E) {x : Int32} {tgt : Nat} (hd : dj cc pc (.ifCond .lt) q tgt) (kt : x < 0 → G κ nL cs ss tgt lv st X P) (kf : ¬ x < 0 → G κ nL cs ss q lv st X P) : G κ nL cs ss pc lv (.int x :: st) X P := by
  obtain ⟨off, hd, rfl, ht⟩ := hd
  intro H locs ls hl hP hD hS
  exact lv_if_lt C.2.2.2.1 C.2.2.2.2.1 hd ht (fun h => kt h H locs ls hl hP hD hS) (fun h => kf h H locs ls hl hP hD hS)
theorem g_icmp_lt (C : zC κ l g R cc nL own name ret E) {x y : Int32} {tgt : Nat} (hd : dj cc pc (.if_icmp .lt) q tgt) (kt : x < y → G κ nL cs ss tgt lv st X P) (kf : ¬ x < y → G κ nL cs ss q lv st X P) : G κ nL cs ss pc lv (.int y :: .int x :: st) X P := by
  obtain ⟨off, hd, rfl, ht⟩ := hd
  intro H locs ls hl hP hD hS
  exact lv_icmp_lt C.2.2.2.1 C.2.2.2.2.1 hd ht (fun h => kt h H locs ls hl hP hD hS) (fun h => kf h H locs ls hl hP hD hS)
theorem g_if_ge (C : zC κ l g R cc nL own name ret E) {x : Int32} {tgt : Nat} (hd : dj cc pc (.ifCond .ge) q tgt) (kt : 0 ≤ x → G κ nL cs ss tgt lv st X P) (kf : ¬ 0 ≤ x → G κ nL cs ss q lv st X P) : G κ nL cs ss pc lv (.int x :: st) X P := by
  obtain ⟨off, hd, rfl, ht⟩ := hd
  intro H locs ls hl hP hD hS
  exact lv_if_ge C.2.2.2.1 C.2.2.2.2.1 hd ht (fun h => kt h H locs ls hl hP hD hS) (fun h => kf h H locs ls hl hP hD hS)
theorem g_icmp_ge (C : zC κ l g R cc nL own name ret E) {x y : Int32} {tgt : Nat} (hd : dj cc pc (.if_icmp .ge) q tgt) (kt : y ≤ x → G κ nL cs ss tgt lv st X P) (kf : ¬ y ≤ x → G κ nL cs ss q lv st X P) : G κ nL cs ss pc lv (.int y :: .int x :: st) X P := by
  obtain ⟨off, hd, rfl, ht⟩ := hd
  intro H locs ls hl hP hD hS
  exact lv_icmp_ge C.2.2.2.1 C.2.2.2.2.1 hd ht (fun h => kt h H locs ls hl hP hD hS) (fun h => kf h H locs ls hl hP hD hS)
theorem g_if_gt (C : zC κ l g R cc nL own name ret E) {x : Int32} {tgt : Nat} (hd : dj cc pc (.ifCond .gt) q tgt) (kt : 0 < x → G κ nL cs ss tgt lv st X P) (kf : ¬ 0 < x → G κ nL cs ss q lv st X P) : G κ nL cs ss pc lv (.int x :: st) X P := by
  obtain ⟨off, hd, rfl, ht⟩ := hd
  intro H locs ls hl hP hD hS
  exact lv_if_gt C.2.2.2.1 C.2.2.2.2.1 hd ht (fun h => kt h H locs ls hl hP hD hS) (fun h => kf h H locs ls hl hP hD hS)
theorem g_icmp_gt (C : zC κ l g R cc nL own name ret E) {x y : Int32} {tgt : Nat} (hd : dj cc pc (.if_icmp .gt) q tgt) (kt : y < x → G κ nL cs ss tgt lv st X P) (kf : ¬ y < x → G κ nL cs ss q lv st X P) : G κ nL cs ss pc lv (.int y :: .int x :: st) X P := by
  obtain ⟨off, hd, rfl, ht⟩ := hd
  intro H locs ls hl hP hD hS
  exact lv_icmp_gt C.2.2.2.1 C.2.2.2.2.1 hd ht (fun h => kt h H locs ls hl hP hD hS) (fun h => kf h H locs ls hl hP hD hS)
theorem g_if_le (C : zC κ l g R cc nL own name ret E) {x : Int32} {tgt : Nat} (hd : dj cc pc (.ifCond .le) q tgt) (kt : x ≤ 0 → G κ nL cs ss tgt lv st X P) (kf : ¬ x ≤ 0 → G κ nL cs ss q lv st X P) : G κ nL cs ss pc lv (.int x :: st) X P := by
  obtain ⟨off, hd, rfl, ht⟩ := hd
  intro H locs ls hl hP hD hS
  exact lv_if_le C.2.2.2.1 C.2.2.2.2.1 hd ht (fun h => kt h H locs ls hl hP hD hS) (fun h => kf h H locs ls hl hP hD hS)
theorem g_icmp_le (C : zC κ l g R cc nL own name ret E) {x y : Int32} {tgt : Nat} (hd : dj cc pc (.if_icmp .le) q tgt) (kt : x ≤ y → G κ nL cs ss tgt lv st X P) (kf : ¬ x ≤ y → G κ nL cs ss q lv st X P) : G κ nL cs ss pc lv (.int y :: .int x :: st) X P := by
  obtain ⟨off, hd, rfl, ht⟩ := hd
  intro H locs ls hl hP hD hS
  exact lv_icmp_le C.2.2.2.1 C.2.2.2.2.1 hd ht (fun h => kt h H locs ls hl hP hD hS) (fun h => kf h H locs ls hl hP hD hS)
theorem g_goto (C : zC κ l g R cc nL own name ret E) {tgt : Nat} (hd : dj cc pc (.goto) q tgt) (k : G κ nL cs ss tgt lv st X P) : G κ nL cs ss pc lv st X P := by
  obtain ⟨off, hd, rfl, ht⟩ := hd
  intro H locs ls hl hP hD hS
  exact lv_goto C.2.2.2.1 C.2.2.2.2.1 hd ht (k H locs ls hl hP hD hS)
theorem g_lv {lv1 : List (Nat × Value)} (ks : List Nat) (h : lv_pick lv ks = lv1) (k : G κ nL cs ss pc lv1 st X P) : G κ nL cs ss pc lv st X P := fun H locs ls hl hP hD hS => k H locs ls (lv_sub hl ks h) hP hD hS
theorem g_widen {c2 s2 : Nat} (h1 : cs ≤ c2) (h2 : ss ≤ s2) (k : G κ nL c2 s2 pc lv st X P) : G κ nL cs ss pc lv st X P := fun H locs ls hl hP hD hS => W.widen h1 h2 (k H locs ls hl hP hD hS)
theorem g_eq {st1 : List Value} {X1 : va_W} (h1 : st = st1) (h2 : X = X1) (k : G κ nL cs ss pc lv st1 X1 P) : G κ nL cs ss pc lv st X P := by subst h1; subst h2; exact k
theorem g_get (C : zC κ l g R cc nL own name ret E) {a ci N index : Nat} {fs : List Value} {Cn : String} {T : u_T} {v : Value} (i : Nat) (he : X[i]? = some (a, .inr (ci, fs))) (hc : vwCl[ci]? = some (Cn, T, N)) (hin : ∀ w ∈ u_ws Cn T N, w ∈ big) (f : Nat) (hf : f < N) (hw : Cond.fieldLink own index (T f).1 (T f).2.1 (T f).2.2.1 ∈ big) (hv : fs[f]? = some v) (hd : dz cc pc (.getfield index) 3 q) (k : G κ nL cs ss q lv (v :: st) X P) : G κ nL cs ss pc lv (.ref a :: st) X P := by
  obtain ⟨hd, rfl⟩ := hd
  intro H locs ls hl hP hD hS
  exact va_get C.2.2.2.1 C.2.2.2.2.1 C.2.2.2.2.2.2.2.1 hin C.2.2.2.2.2.2.1 C.K hP i (by rw [List.getElem?_append_left (List.getElem?_eq_some_iff.mp he).1]; exact he) hc f hf (C.w hw) (fun _ h => h) hv hd (k H locs ls hl hP hD hS)
theorem g_put (C : zC κ l g R cc nL own name ret E) {a ci N index : Nat} {fs : List Value} {Cn : String} {T : u_T} {v : Value} {X1 : va_W} {ty0 : Nat → FieldType} (i : Nat) (he : X[i]? = some (a, .inr (ci, fs))) (hc : vwCl[ci]? = some (Cn, T, N)) (hin : ∀ w ∈ u_ws Cn T N, w ∈ big) (f : Nat) (hf : f < N) (hty : ∀ k, k < N → parseFieldDescriptor (T k).2.2.1 = some (ty0 k)) (hnm : ∀ a, a < N → ∀ b, b < N → a ≠ b → (T a).2.1 ≠ (T b).2.1) (hw : Cond.fieldLink own index (T f).1 (T f).2.1 (T f).2.2.1 ∈ big) (hfin : (T f).2.2.2 = false) (hn : narrow (ty0 f) v = v) (hfit : fits (ty0 f) v = true) (hlf : f < fs.length) (hX : X.set i (a, .inr (ci, fs.set f v)) = X1) (hd : dz cc pc (.putfield index) 3 q) (k : G κ nL cs ss q lv st X1 P) : G κ nL cs ss pc lv (v :: .ref a :: st) X P := by
  obtain ⟨hd, rfl⟩ := hd
  intro H locs ls hl hP hD hS
  refine va_put C.2.2.2.1 C.2.2.2.2.1 C.2.2.2.2.2.2.2.1 hin ty0 hty hnm C.2.2.2.2.2.2.1 C.K hP hD hS i (by rw [List.getElem?_append_left (List.getElem?_eq_some_iff.mp he).1]; exact he) hc f hf (C.w hw) (fun _ h => h) hfin (hty f hf) hn hfit hlf hd (fun H1 l1 hP1 hD1 hS1 => ?_)
  rw [List.set_append_left _ _ (List.getElem?_eq_some_iff.mp he).1, hX] at hP1 hD1
  exact k H1 l1 ls hl hP1 hD1 hS1
theorem g_getN (C : zC κ l g R cc nL own name ret E) {a ci N index : Nat} {fs : List Value} {Cn : String} {T : u_T} {v : Value} (i : Nat) (he : X[i]? = some (a, .inr (ci, fs))) (hc : vwCl[ci]? = some (Cn, T, N)) (hin : ∀ w ∈ u_ws Cn T N, w ∈ big) (f : Nat) (hf : f < N) (hw : Cond.fieldLinkNest own index (T f).1 (T f).2.1 (T f).2.2.1 "TombLane" ∈ nn) (hv : fs[f]? = some v) (hd : dz cc pc (.getfield index) 3 q) (k : G κ nL cs ss q lv (v :: st) X P) : G κ nL cs ss pc lv (.ref a :: st) X P := by
  obtain ⟨hd, rfl⟩ := hd
  intro H locs ls hl hP hD hS
  exact va_getN C.2.2.2.1 C.2.2.2.2.1 C.2.2.2.2.2.2.2.1 hin C.2.2.2.2.2.2.1 C.K hP i (by rw [List.getElem?_append_left (List.getElem?_eq_some_iff.mp he).1]; exact he) hc f hf (C.nw hw) (fun _ h => h) hv hd (k H locs ls hl hP hD hS)
theorem g_putN (C : zC κ l g R cc nL own name ret E) {a ci N index : Nat} {fs : List Value} {Cn : String} {T : u_T} {v : Value} {X1 : va_W} {ty0 : Nat → FieldType} (i : Nat) (he : X[i]? = some (a, .inr (ci, fs))) (hc : vwCl[ci]? = some (Cn, T, N)) (hin : ∀ w ∈ u_ws Cn T N, w ∈ big) (f : Nat) (hf : f < N) (hty : ∀ k, k < N → parseFieldDescriptor (T k).2.2.1 = some (ty0 k)) (hnm : ∀ a, a < N → ∀ b, b < N → a ≠ b → (T a).2.1 ≠ (T b).2.1) (hw : Cond.fieldLinkNest own index (T f).1 (T f).2.1 (T f).2.2.1 "TombLane" ∈ nn) (hfin : (T f).2.2.2 = false) (hn : narrow (ty0 f) v = v) (hfit : fits (ty0 f) v = true) (hlf : f < fs.length) (hX : X.set i (a, .inr (ci, fs.set f v)) = X1) (hd : dz cc pc (.putfield index) 3 q) (k : G κ nL cs ss q lv st X1 P) : G κ nL cs ss pc lv (v :: .ref a :: st) X P := by
  obtain ⟨hd, rfl⟩ := hd
  intro H locs ls hl hP hD hS
  refine va_putN C.2.2.2.1 C.2.2.2.2.1 C.2.2.2.2.2.2.2.1 hin ty0 hty hnm C.2.2.2.2.2.2.1 C.K hP hD hS i (by rw [List.getElem?_append_left (List.getElem?_eq_some_iff.mp he).1]; exact he) hc f hf (C.nw hw) (fun _ h => h) hfin (hty f hf) hn hfit hlf hd (fun H1 l1 hP1 hD1 hS1 => ?_)
  rw [List.set_append_left _ _ (List.getElem?_eq_some_iff.mp he).1, hX] at hP1 hD1
  exact k H1 l1 ls hl hP1 hD1 hS1
theorem g_putF (C : zC κ l g R cc nL own name ret E) {a ci N index : Nat} {fs : List Value} {Cn : String} {T : u_T} {v : Value} {X1 : va_W} {ty0 : Nat → FieldType} (i : Nat) (he : X[i]? = some (a, .inr (ci, fs))) (hc : vwCl[ci]? = some (Cn, T, N)) (hin : ∀ w ∈ u_ws Cn T N, w ∈ big) (f : Nat) (hf : f < N) (hty : ∀ k, k < N → parseFieldDescriptor (T k).2.2.1 = some (ty0 k)) (hnm : ∀ a, a < N → ∀ b, b < N → a ≠ b → (T a).2.1 ≠ (T b).2.1) (hw : Cond.fieldLink own index (T f).1 (T f).2.1 (T f).2.2.1 ∈ big) (hfin : (T f).2.2.2 = true) (hni : name = "<init>") (hdecl : (T f).1 = own) (hn : narrow (ty0 f) v = v) (hfit : fits (ty0 f) v = true) (hlf : f < fs.length) (hX : X.set i (a, .inr (ci, fs.set f v)) = X1) (hd : dz cc pc (.putfield index) 3 q) (k : G κ nL cs ss q lv st X1 P) : G κ nL cs ss pc lv (v :: .ref a :: st) X P := by
  obtain ⟨hd, rfl⟩ := hd
  intro H locs ls hl hP hD hS
  refine va_putF C.2.2.2.1 C.2.2.2.2.1 C.2.2.2.2.2.2.2.1 hin ty0 hty hnm C.2.2.2.2.2.2.1 C.K hP hD hS i (by rw [List.getElem?_append_left (List.getElem?_eq_some_iff.mp he).1]; exact he) hc f hf (C.w hw) (fun _ h => h) hfin (C.2.2.2.2.2.2.2.2.2.2.2.2.1.trans hni) hdecl (hty f hf) hn hfit hlf hd (fun H1 l1 hP1 hD1 hS1 => ?_)
  rw [List.set_append_left _ _ (List.getElem?_eq_some_iff.mp he).1, hX] at hP1 hD1
  exact k H1 l1 ls hl hP1 hD1 hS1
theorem g_iald (C : zC κ l g R cc nL own name ret E) {a n : Nat} {f : Nat → Int32} {x : Int32} (i : Nat) (he : X[i]? = some (a, .inl (g.2.1 0, n, .inl f))) (hin : vp_in x n) (hd : dz cc pc (.iaload) 1 q) (k : G κ nL cs ss q lv (.int (f x.toNatClampNeg) :: st) X P) : G κ nL cs ss pc lv (.int x :: .ref a :: st) X P := by
  obtain ⟨hd, rfl⟩ := hd
  intro H locs ls hl hP hD hS
  exact va_iald C.2.2.2.1 C.2.2.2.2.1 C.K hP i 0 (by rw [List.getElem?_append_left (List.getElem?_eq_some_iff.mp he).1]; exact he) (by rw [C.2.1]; rfl) hin hd (k H locs ls hl hP hD hS)
theorem g_iast (C : zC κ l g R cc nL own name ret E) {a n : Nat} {f : Nat → Int32} {x : Int32} {w : Int32} {X1 : va_W} (i : Nat) (he : X[i]? = some (a, .inl (g.2.1 0, n, .inl f))) (hin : vp_in x n) (hX : X.set i (a, .inl (g.2.1 0, n, .inl (upd f x.toNatClampNeg w))) = X1) (hd : dz cc pc (.iastore) 1 q) (k : G κ nL cs ss q lv st X1 P) : G κ nL cs ss pc lv (.int w :: .int x :: .ref a :: st) X P := by
  obtain ⟨hd, rfl⟩ := hd
  intro H locs ls hl hP hD hS
  refine va_iast C.2.2.2.1 C.2.2.2.2.1 C.K hP hD hS i 0 (by rw [List.getElem?_append_left (List.getElem?_eq_some_iff.mp he).1]; exact he) (by rw [C.2.1]; rfl) hin hd (fun H1 l1 hP1 hD1 hS1 => ?_)
  rw [List.set_append_left _ _ (List.getElem?_eq_some_iff.mp he).1, hX] at hP1 hD1
  exact k H1 l1 ls hl hP1 hD1 hS1
theorem g_ialen (C : zC κ l g R cc nL own name ret E) {a n : Nat} {f : Nat → Int32} (i : Nat) (he : X[i]? = some (a, .inl (g.2.1 0, n, .inl f))) (hd : dz cc pc (.arraylength) 1 q) (k : G κ nL cs ss q lv (.int (nI n) :: st) X P) : G κ nL cs ss pc lv (.ref a :: st) X P := by
  obtain ⟨hd, rfl⟩ := hd
  intro H locs ls hl hP hD hS
  exact va_alen (x := (n, .inl f)) C.2.2.2.1 C.2.2.2.2.1 C.K hP i 0 (by rw [List.getElem?_append_left (List.getElem?_eq_some_iff.mp he).1]; exact he) (ty := .int) (by rw [C.2.1]; rfl) rfl hd (k H locs ls hl hP hD hS)
theorem g_lald (C : zC κ l g R cc nL own name ret E) {a n : Nat} {f : Nat → Int64} {x : Int32} (i : Nat) (he : X[i]? = some (a, .inl (g.2.1 1, n, .inr (.inl f)))) (hin : vp_in x n) (hd : dz cc pc (.laload) 1 q) (k : G κ nL cs ss q lv (.long (f x.toNatClampNeg) :: st) X P) : G κ nL cs ss pc lv (.int x :: .ref a :: st) X P := by
  obtain ⟨hd, rfl⟩ := hd
  intro H locs ls hl hP hD hS
  exact va_lald C.2.2.2.1 C.2.2.2.2.1 C.K hP i 1 (by rw [List.getElem?_append_left (List.getElem?_eq_some_iff.mp he).1]; exact he) (by rw [C.2.1]; rfl) hin hd (k H locs ls hl hP hD hS)
theorem g_last (C : zC κ l g R cc nL own name ret E) {a n : Nat} {f : Nat → Int64} {x : Int32} {w : Int64} {X1 : va_W} (i : Nat) (he : X[i]? = some (a, .inl (g.2.1 1, n, .inr (.inl f)))) (hin : vp_in x n) (hX : X.set i (a, .inl (g.2.1 1, n, .inr (.inl (vp_updL f x.toNatClampNeg w)))) = X1) (hd : dz cc pc (.lastore) 1 q) (k : G κ nL cs ss q lv st X1 P) : G κ nL cs ss pc lv (.long w :: .int x :: .ref a :: st) X P := by
  obtain ⟨hd, rfl⟩ := hd
  intro H locs ls hl hP hD hS
  refine va_last C.2.2.2.1 C.2.2.2.2.1 C.K hP hD hS i 1 (by rw [List.getElem?_append_left (List.getElem?_eq_some_iff.mp he).1]; exact he) (by rw [C.2.1]; rfl) hin hd (fun H1 l1 hP1 hD1 hS1 => ?_)
  rw [List.set_append_left _ _ (List.getElem?_eq_some_iff.mp he).1, hX] at hP1 hD1
  exact k H1 l1 ls hl hP1 hD1 hS1
theorem g_lalen (C : zC κ l g R cc nL own name ret E) {a n : Nat} {f : Nat → Int64} (i : Nat) (he : X[i]? = some (a, .inl (g.2.1 1, n, .inr (.inl f)))) (hd : dz cc pc (.arraylength) 1 q) (k : G κ nL cs ss q lv (.int (nI n) :: st) X P) : G κ nL cs ss pc lv (.ref a :: st) X P := by
  obtain ⟨hd, rfl⟩ := hd
  intro H locs ls hl hP hD hS
  exact va_alen (x := (n, .inr (.inl f))) C.2.2.2.1 C.2.2.2.2.1 C.K hP i 1 (by rw [List.getElem?_append_left (List.getElem?_eq_some_iff.mp he).1]; exact he) (ty := .long) (by rw [C.2.1]; rfl) rfl hd (k H locs ls hl hP hD hS)
theorem g_bald (C : zC κ l g R cc nL own name ret E) {a n : Nat} {f : Nat → Int32} {x : Int32} (i : Nat) (he : X[i]? = some (a, .inl (g.2.1 2, n, .inl f))) (hin : vp_in x n) (hd : dz cc pc (.baload) 1 q) (k : G κ nL cs ss q lv (.int (f x.toNatClampNeg) :: st) X P) : G κ nL cs ss pc lv (.int x :: .ref a :: st) X P := by
  obtain ⟨hd, rfl⟩ := hd
  intro H locs ls hl hP hD hS
  exact va_bald C.2.2.2.1 C.2.2.2.2.1 C.K hP i 2 (by rw [List.getElem?_append_left (List.getElem?_eq_some_iff.mp he).1]; exact he) (by rw [C.2.1]; rfl) hin hd (k H locs ls hl hP hD hS)
theorem g_bast (C : zC κ l g R cc nL own name ret E) {a n : Nat} {f : Nat → Int32} {x : Int32} {w : Int32} {X1 : va_W} (i : Nat) (he : X[i]? = some (a, .inl (g.2.1 2, n, .inl f))) (hin : vp_in x n) (hX : X.set i (a, .inl (g.2.1 2, n, .inl (upd f x.toNatClampNeg (vp_nar .byte w)))) = X1) (hd : dz cc pc (.bastore) 1 q) (k : G κ nL cs ss q lv st X1 P) : G κ nL cs ss pc lv (.int w :: .int x :: .ref a :: st) X P := by
  obtain ⟨hd, rfl⟩ := hd
  intro H locs ls hl hP hD hS
  refine va_bast C.2.2.2.1 C.2.2.2.2.1 C.K hP hD hS i 2 (by rw [List.getElem?_append_left (List.getElem?_eq_some_iff.mp he).1]; exact he) (by rw [C.2.1]; rfl) hin hd (fun H1 l1 hP1 hD1 hS1 => ?_)
  rw [List.set_append_left _ _ (List.getElem?_eq_some_iff.mp he).1, hX] at hP1 hD1
  exact k H1 l1 ls hl hP1 hD1 hS1
theorem g_balen (C : zC κ l g R cc nL own name ret E) {a n : Nat} {f : Nat → Int32} (i : Nat) (he : X[i]? = some (a, .inl (g.2.1 2, n, .inl f))) (hd : dz cc pc (.arraylength) 1 q) (k : G κ nL cs ss q lv (.int (nI n) :: st) X P) : G κ nL cs ss pc lv (.ref a :: st) X P := by
  obtain ⟨hd, rfl⟩ := hd
  intro H locs ls hl hP hD hS
  exact va_alen (x := (n, .inl f)) C.2.2.2.1 C.2.2.2.2.1 C.K hP i 2 (by rw [List.getElem?_append_left (List.getElem?_eq_some_iff.mp he).1]; exact he) (ty := .byte) (by rw [C.2.1]; rfl) rfl hd (k H locs ls hl hP hD hS)
theorem g_zald (C : zC κ l g R cc nL own name ret E) {a n : Nat} {f : Nat → Int32} {x : Int32} (i : Nat) (he : X[i]? = some (a, .inl (g.2.1 3, n, .inl f))) (hin : vp_in x n) (hd : dz cc pc (.baload) 1 q) (k : G κ nL cs ss q lv (.int (f x.toNatClampNeg) :: st) X P) : G κ nL cs ss pc lv (.int x :: .ref a :: st) X P := by
  obtain ⟨hd, rfl⟩ := hd
  intro H locs ls hl hP hD hS
  exact va_zald C.2.2.2.1 C.2.2.2.2.1 C.K hP i 3 (by rw [List.getElem?_append_left (List.getElem?_eq_some_iff.mp he).1]; exact he) (by rw [C.2.1]; rfl) hin hd (k H locs ls hl hP hD hS)
theorem g_zast (C : zC κ l g R cc nL own name ret E) {a n : Nat} {f : Nat → Int32} {x : Int32} {w : Int32} {X1 : va_W} (i : Nat) (he : X[i]? = some (a, .inl (g.2.1 3, n, .inl f))) (hin : vp_in x n) (hX : X.set i (a, .inl (g.2.1 3, n, .inl (upd f x.toNatClampNeg (vp_nar .boolean w)))) = X1) (hd : dz cc pc (.bastore) 1 q) (k : G κ nL cs ss q lv st X1 P) : G κ nL cs ss pc lv (.int w :: .int x :: .ref a :: st) X P := by
  obtain ⟨hd, rfl⟩ := hd
  intro H locs ls hl hP hD hS
  refine va_zast C.2.2.2.1 C.2.2.2.2.1 C.K hP hD hS i 3 (by rw [List.getElem?_append_left (List.getElem?_eq_some_iff.mp he).1]; exact he) (by rw [C.2.1]; rfl) hin hd (fun H1 l1 hP1 hD1 hS1 => ?_)
  rw [List.set_append_left _ _ (List.getElem?_eq_some_iff.mp he).1, hX] at hP1 hD1
  exact k H1 l1 ls hl hP1 hD1 hS1
theorem g_zalen (C : zC κ l g R cc nL own name ret E) {a n : Nat} {f : Nat → Int32} (i : Nat) (he : X[i]? = some (a, .inl (g.2.1 3, n, .inl f))) (hd : dz cc pc (.arraylength) 1 q) (k : G κ nL cs ss q lv (.int (nI n) :: st) X P) : G κ nL cs ss pc lv (.ref a :: st) X P := by
  obtain ⟨hd, rfl⟩ := hd
  intro H locs ls hl hP hD hS
  exact va_alen (x := (n, .inl f)) C.2.2.2.1 C.2.2.2.2.1 C.K hP i 3 (by rw [List.getElem?_append_left (List.getElem?_eq_some_iff.mp he).1]; exact he) (ty := .boolean) (by rw [C.2.1]; rfl) rfl hd (k H locs ls hl hP hD hS)
theorem g_iret (C : zC κ l g R cc nL own name ret E) {x : Int32} (hr : ret = some .int) (hE : E (some (.int x)) X P) (h1 : cs ≤ R.cells) (h2 : ss ≤ R.slots) (hd : dz cc pc (.ireturn) 1 q) : G κ nL cs ss pc lv ([.int x]) X P := by
  obtain ⟨hd, rfl⟩ := hd
  intro H locs ls hl hP hD hS
  obtain ⟨-, hg, -, hx, hb, -, -, -, -, -, hret, hlk, -, hQ⟩ := C
  rw [hQ]
  rw [hg] at hP
  refine W.widen h1 h2 ?_
  exact W.iret hx hb (hret.trans hr) (fun t ht _ => ⟨⟨(some (.int x)), X, P, rfl, hE, by rw [ht]; exact hP, hD⟩, hS.F ht⟩) hS.2.2 hd hlk
theorem g_zret (C : zC κ l g R cc nL own name ret E) {x : Int32} (hz : x = 0 ∨ x = 1) (hr : ret = some .boolean) (hE : E (some (.int x)) X P) (h1 : cs ≤ R.cells) (h2 : ss ≤ R.slots) (hd : dz cc pc (.ireturn) 1 q) : G κ nL cs ss pc lv ([.int x]) X P := by
  obtain ⟨hd, rfl⟩ := hd
  intro H locs ls hl hP hD hS
  obtain ⟨-, hg, -, hx, hb, -, -, -, -, -, hret, hlk, -, hQ⟩ := C
  rw [hQ]
  rw [hg] at hP
  refine W.widen h1 h2 ?_
  exact W.zret hx hb (hret.trans hr) (by rcases hz with rfl | rfl <;> rfl) (fun t ht _ => ⟨⟨(some (.int x)), X, P, rfl, hE, by rw [ht]; exact hP, hD⟩, hS.F ht⟩) hS.2.2 hd hlk
theorem g_vret (C : zC κ l g R cc nL own name ret E)  (hr : ret = none) (hE : E none X P) (h1 : cs ≤ R.cells) (h2 : ss ≤ R.slots) (hd : dz cc pc (.return_) 1 q) : G κ nL cs ss pc lv [] X P := by
  obtain ⟨hd, rfl⟩ := hd
  intro H locs ls hl hP hD hS
  obtain ⟨-, hg, -, hx, hb, -, -, -, -, -, hret, hlk, -, hQ⟩ := C
  rw [hQ]
  rw [hg] at hP
  refine W.widen h1 h2 ?_
  exact W.vret hx hb (hret.trans hr) (fun t ht _ => ⟨⟨none, X, P, rfl, hE, by rw [ht]; exact hP, hD⟩, hS.F ht⟩) hS.2.2 hd hlk
theorem g_aret (C : zC κ l g R cc nL own name ret E) {x : Nat} {rt : FieldType} (hrt : (∃ n, rt = .object n) ∨ ∃ t, rt = .array t) (hr : ret = some rt) (hE : E (some (.ref x)) X P) (h1 : cs ≤ R.cells) (h2 : ss ≤ R.slots) (hd : dz cc pc (.areturn) 1 q) : G κ nL cs ss pc lv ([.ref x]) X P := by
  obtain ⟨hd, rfl⟩ := hd
  intro H locs ls hl hP hD hS
  obtain ⟨-, hg, -, hx, hb, -, -, -, -, -, hret, hlk, -, hQ⟩ := C
  rw [hQ]
  rw [hg] at hP
  refine W.widen h1 h2 ?_
  exact W.aret hx hb (hret.trans hr) hrt (Or.inr ⟨_, rfl⟩) (fun t ht _ => ⟨⟨(some (.ref x)), X, P, rfl, hE, by rw [ht]; exact hP, hD⟩, hS.F ht⟩) hS.2.2 hd hlk
end GR
end
section
/-! CALLS: the six kinds of call, then the frame -/
def mok (y : MethodName) (cc : ByteArray) (nL : Nat) (ret : Option FieldType) (n : Nat) : Prop := Cond.code y cc nL ret ∈ big ∧ Cond.initialized y.cls ∈ big ∧ y.cls ≠ "java/lang/invoke/MethodHandle" ∧ y.cls ≠ "java/lang/invoke/VarHandle" ∧ (parseMethodDescriptor y.desc).map (fun d => d.parameters.length) = some n
def mov (y : MethodName) : Prop := Cond.instanceMethod y ∈ big ∧ Cond.selects y.cls y y ∈ big
def rcv (ws : va_W) (b : Nat) (Cn : String) : Prop := ∃ (k ci : Nat) (fs : List Value) (T : u_T) (N : Nat), ws[k]? = some (b, .inr (ci, fs)) ∧ vwCl[ci]? = some (Cn, T, N)
theorem rcX {X P : va_W} {b ci : Nat} {Cn : String} {fs : List Value} {T : u_T} {N : Nat} (i : Nat) (h : X[i]? = some (b, .inr (ci, fs))) (h2 : vwCl[ci]? = some (Cn, T, N)) : rcv (X ++ P) b Cn := ⟨i, ci, fs, T, N, by rw [List.getElem?_append_left (List.getElem?_eq_some_iff.mp h).1]; exact h, h2⟩
theorem big_in {y : MethodName} {cc : ByteArray} {nL : Nat} {ret : Option FieldType} (h : Cond.code y cc nL ret ∈ big) : GoodIn big (.code y cc nL ret :: big) := by
  intro w hw
  have hb : w ∈ big := by
    rcases List.mem_cons.mp hw with rfl | h2
    · exact h
    · exact h2
  exact ⟨hb, good_of_word (List.mem_filter.mp hb).2⟩
section GC
variable {κ : Kx} {l : Launch} {g : Gx} {R : Room} {cc : ByteArray} {nL : Nat} {own name : String} {ret : Option FieldType} {E : Ex} {cs ss pc q : Nat} {lv : List (Nat × Value)} {st : List Value} {X P : va_W}
variable {y : MethodName} {yc : ByteArray} {yL n index : Nat} {yr : Option FieldType} {rm : Room} {b : Nat} {As rest : List Value} {wX wP : va_W} {Ec : Ex} {H : Heap} {locs : List Loc} {ls : Array Slot}
abbrev RunK (κ : Kx) (g : Gx) (H : Heap) (locs : List Loc) (ls : Array Slot) (cs ss pc : Nat) (st rest : List Value) (rm : Room) (wc : va_W) (Ec : Ex) (a : Array Value) : Prop :=
  va_Run κ.1.1 κ.1.2.1 κ.1.2.2.1 κ.1.2.2.2 κ.2.1.1 κ.2.1.2.1 κ.2.1.2.2.1 κ.2.1.2.2.2.1 κ.2.1.2.2.2.2.1 κ.2.1.2.2.2.2.2 H locs cs ss rm.cells rm.slots (F0 κ.2.1.2.1 pc ls st) rest (QE g (va_A wc H.size) Ec a) (va_A wc H.size)
theorem pre_call (C : zC κ l g R cc nL own name ret E) {args : List Value} (hP : va_P κ.2.2.1.1.1 vwCl (wX ++ wP) H) (hD : va_D κ.2.2.1.2 (wX ++ wP)) (hS : va_S κ.2.2.1.2 κ.2.1.1.heap H locs) (hF : ∀ q, va_A (wX ++ wP) H.size q → κ.2.2.1.2 q) :
    PreS κ.2.1.1 H (va_Pc args (fun U => U.heap.size = H.size ∧ va_P g.1 vwCl (wX ++ wP) U.heap ∧ va_D (fun _ => True) (wX ++ wP) ∧ ex_ok g (va_A (wX ++ wP) H.size) U)) args := by
  refine ⟨fun a U f mk hq => ?_, fun U hU hW => ?_⟩
  · obtain ⟨h0, h1, h2, h3, h4⟩ := hq
    exact ⟨h0, h1, h2, h3, ex_blind h4⟩
  · exact ⟨rfl, by rw [hU], by rw [hU, ← C.2.1]; exact hP, hD.weaken (fun _ _ _ _ => trivial), ex_call C.ex hS hU hW hF⟩
theorem run_V (C : zC κ l g R cc nL own name ret E) (hM : MP l g y yc yL yr rm (.ref b :: As) wX wP Ec) (ho : mok y yc yL yr As.length) (hv : mov y) (hw : Cond.methodLink own index y ∈ big) (hR : rm.frames + 1 ≤ R.frames ∧ 8 + (yL + 11) + rm.locals ≤ R.locals)
    (hrc : ∃ cell : Cell, H[b]? = some cell ∧ cell.vm.isStatics = false ∧ κ.2.1.1.vm.findClass y.cls = some cell.cls) (hP : va_P κ.2.2.1.1.1 vwCl (wX ++ wP) H) (hD : va_D κ.2.2.1.2 (wX ++ wP)) (hS : va_S κ.2.2.1.2 κ.2.1.1.heap H locs) (hF : ∀ q, va_A (wX ++ wP) H.size q → κ.2.2.1.2 q)
    (hl : lv_has ls nL lv) (hst : st = As.reverse ++ .ref b :: rest) (hrest : (rest.map fun v => v.category).sum ≤ 8) (hc : cs + rm.cells ≤ R.cells ∧ ss + rm.slots ≤ R.slots) (hd : dz cc pc (.invokevirtual index) 3 q) :
    RunK κ g H locs ls cs ss pc st rest rm (wX ++ wP) Ec (Value.ref b :: As).toArray := by
  obtain ⟨hd, rfl⟩ := hd
  have hp := pre_call C (args := .ref b :: As) hP hD hS hF
  have hx := id C
  obtain ⟨h1, h2, h3, h4, h5, h6, h7, h8, -⟩ := hx
  refine va_runV (Ts := big) (cc := cc) (nL := nL) (own := own) (C := y.cls) (n := As.length) (ws := .code y yc yL yr :: big) (bytes := yc) (maxL := yL) (ret := yr) ⟨h4, h5, h6, h7, h8⟩ (by rw [h1]; exact hM H.size) ⟨callB_of As.length h8 (big_in ho.1) rfl rfl rfl (C.w ho.2.1) (C.w hw) ho.2.2 (by rw [h3]; exact hR), C.w hv.1, C.w hv.2⟩ ⟨hp.1, hrc, hp.2⟩ rfl rfl hl.1 hst (lv_room hrest) hd (by rw [h3]; exact hc)
theorem run_S (C : zC κ l g R cc nL own name ret E) (hM : MP l g y yc yL yr rm As wX wP Ec) (ho : mok y yc yL yr As.length) (hv : Cond.static y ∈ big) (hw : Cond.methodLink own index y ∈ big) (hR : rm.frames + 1 ≤ R.frames ∧ 8 + (yL + 11) + rm.locals ≤ R.locals)
    (hP : va_P κ.2.2.1.1.1 vwCl (wX ++ wP) H) (hD : va_D κ.2.2.1.2 (wX ++ wP)) (hS : va_S κ.2.2.1.2 κ.2.1.1.heap H locs) (hF : ∀ q, va_A (wX ++ wP) H.size q → κ.2.2.1.2 q)
    (hl : lv_has ls nL lv) (hst : st = As.reverse ++ rest) (hrest : (rest.map fun v => v.category).sum ≤ 8) (hc : cs + rm.cells ≤ R.cells ∧ ss + rm.slots ≤ R.slots) (hd : dz cc pc (.invokestatic index) 3 q) :
    RunK κ g H locs ls cs ss pc st rest rm (wX ++ wP) Ec As.toArray := by
  obtain ⟨hd, rfl⟩ := hd
  have hp := pre_call C (args := As) hP hD hS hF
  have hx := id C
  obtain ⟨h1, h2, h3, h4, h5, h6, h7, h8, -⟩ := hx
  refine va_runS (Ts := big) (cc := cc) (nL := nL) (own := own) (n := As.length) (ws := .code y yc yL yr :: big) (bytes := yc) (maxL := yL) (ret := yr) ⟨h4, h5, h6, h7, h8⟩ (by rw [h1]; exact hM H.size) ⟨callB_of As.length h8 (big_in ho.1) rfl rfl rfl (C.w ho.2.1) (C.w hw) ho.2.2 (by rw [h3]; exact hR), C.w hv⟩ hp rfl rfl hl.1 hst (lv_room hrest) hd (by rw [h3]; exact hc)
theorem run_I (C : zC κ l g R cc nL own name ret E) (hM : MP l g y yc yL none rm (.ref b :: As) wX wP Ec) (ho : mok y yc yL none As.length) (hv : Cond.instanceMethod y ∈ big) (hi : y.name = "<init>") (hw : Cond.methodLink own index y ∈ big) (hR : rm.frames + 1 ≤ R.frames ∧ 8 + (yL + 11) + rm.locals ≤ R.locals)
    (hP : va_P κ.2.2.1.1.1 vwCl (wX ++ wP) H) (hD : va_D κ.2.2.1.2 (wX ++ wP)) (hS : va_S κ.2.2.1.2 κ.2.1.1.heap H locs) (hF : ∀ q, va_A (wX ++ wP) H.size q → κ.2.2.1.2 q)
    (hl : lv_has ls nL lv) (hst : st = As.reverse ++ .ref b :: rest) (hrest : (rest.map fun v => v.category).sum ≤ 8) (hc : cs + rm.cells ≤ R.cells ∧ ss + rm.slots ≤ R.slots) (hd : dz cc pc (.invokespecial index) 3 q) :
    RunK κ g H locs ls cs ss pc st rest rm (wX ++ wP) Ec (Value.ref b :: As).toArray := by
  obtain ⟨hd, rfl⟩ := hd
  have hp := pre_call C (args := .ref b :: As) hP hD hS hF
  have hx := id C
  obtain ⟨h1, h2, h3, h4, h5, h6, h7, h8, -⟩ := hx
  refine va_runI (Ts := big) (cc := cc) (nL := nL) (own := own) (n := As.length) (ws := .code y yc yL none :: big) (bytes := yc) (maxL := yL) ⟨h4, h5, h6, h7, h8⟩ (by rw [h1]; exact hM H.size) ⟨callB_of As.length h8 (big_in ho.1) rfl rfl rfl (C.w ho.2.1) (C.w hw) ho.2.2 (by rw [h3]; exact hR), hi, C.w hv⟩ hp rfl rfl hl.1 hst (lv_room hrest) hd (by rw [h3]; exact hc)
theorem cn_of (C : zC κ l g R cc nL own name ret E) (ho : mok y yc yL yr n) (hw : Cond.methodLinkNest own index y "TombLane" ∈ nn) (hR : rm.frames + 1 ≤ R.frames ∧ 8 + (yL + 11) + rm.locals ≤ R.locals) :
    va_CN κ.1.2.2.2 κ.2.1.1 κ.2.1.2.2.1 own index y "TombLane" yc yL yr (.code y yc yL yr :: big) rm rm.cells rm.slots n := by
  have hx := id C
  obtain ⟨h1, h2, h3, h4, h5, h6, h7, h8, h9, -⟩ := hx
  exact va_cnB n h8 (big_in ho.1) rfl rfl rfl (h9.2.1 _ hw) (C.w ho.2.1) ho.2.2 (by rw [h3]; exact hR)
theorem run_VN (C : zC κ l g R cc nL own name ret E) (hM : MP l g y yc yL yr rm (.ref b :: As) wX wP Ec) (ho : mok y yc yL yr As.length) (hv : mov y) (hw : Cond.methodLinkNest own index y "TombLane" ∈ nn) (hR : rm.frames + 1 ≤ R.frames ∧ 8 + (yL + 11) + rm.locals ≤ R.locals)
    (hrc : ∃ cell : Cell, H[b]? = some cell ∧ cell.vm.isStatics = false ∧ κ.2.1.1.vm.findClass y.cls = some cell.cls) (hP : va_P κ.2.2.1.1.1 vwCl (wX ++ wP) H) (hD : va_D κ.2.2.1.2 (wX ++ wP)) (hS : va_S κ.2.2.1.2 κ.2.1.1.heap H locs) (hF : ∀ q, va_A (wX ++ wP) H.size q → κ.2.2.1.2 q)
    (hl : lv_has ls nL lv) (hst : st = As.reverse ++ .ref b :: rest) (hrest : (rest.map fun v => v.category).sum ≤ 8) (hc : cs + rm.cells ≤ R.cells ∧ ss + rm.slots ≤ R.slots) (hd : dz cc pc (.invokevirtual index) 3 q) :
    RunK κ g H locs ls cs ss pc st rest rm (wX ++ wP) Ec (Value.ref b :: As).toArray := by
  obtain ⟨hd, rfl⟩ := hd
  have hp := pre_call C (args := .ref b :: As) hP hD hS hF
  have hcn := cn_of C ho hw hR
  have hx := id C
  obtain ⟨h1, h2, h3, h4, h5, h6, h7, h8, -⟩ := hx
  refine va_runVN (Ts := big) (cc := cc) (nL := nL) (own := own) (C := y.cls) (n := As.length) (ws := .code y yc yL yr :: big) (bytes := yc) (maxL := yL) (ret := yr) ⟨h4, h5, h6, h7, h8⟩ (by rw [h1]; exact hM H.size) ⟨hcn, C.w hv.1, C.w hv.2⟩ ⟨hp.1, hrc, hp.2⟩ rfl rfl hl.1 hst (lv_room hrest) hd (by rw [h3]; exact hc)
theorem run_SN (C : zC κ l g R cc nL own name ret E) (hM : MP l g y yc yL yr rm As wX wP Ec) (ho : mok y yc yL yr As.length) (hv : Cond.static y ∈ big) (hw : Cond.methodLinkNest own index y "TombLane" ∈ nn) (hR : rm.frames + 1 ≤ R.frames ∧ 8 + (yL + 11) + rm.locals ≤ R.locals)
    (hP : va_P κ.2.2.1.1.1 vwCl (wX ++ wP) H) (hD : va_D κ.2.2.1.2 (wX ++ wP)) (hS : va_S κ.2.2.1.2 κ.2.1.1.heap H locs) (hF : ∀ q, va_A (wX ++ wP) H.size q → κ.2.2.1.2 q)
    (hl : lv_has ls nL lv) (hst : st = As.reverse ++ rest) (hrest : (rest.map fun v => v.category).sum ≤ 8) (hc : cs + rm.cells ≤ R.cells ∧ ss + rm.slots ≤ R.slots) (hd : dz cc pc (.invokestatic index) 3 q) :
    RunK κ g H locs ls cs ss pc st rest rm (wX ++ wP) Ec As.toArray := by
  obtain ⟨hd, rfl⟩ := hd
  have hp := pre_call C (args := As) hP hD hS hF
  have hcn := cn_of C ho hw hR
  have hx := id C
  obtain ⟨h1, h2, h3, h4, h5, h6, h7, h8, -⟩ := hx
  refine va_runSN (Ts := big) (cc := cc) (nL := nL) (own := own) (n := As.length) (ws := .code y yc yL yr :: big) (bytes := yc) (maxL := yL) (ret := yr) ⟨h4, h5, h6, h7, h8⟩ (by rw [h1]; exact hM H.size) ⟨hcn, C.w hv, trivial⟩ hp rfl rfl hl.1 hst (lv_room hrest) hd (by rw [h3]; exact hc)
theorem run_IN (C : zC κ l g R cc nL own name ret E) (hM : MP l g y yc yL none rm (.ref b :: As) wX wP Ec) (ho : mok y yc yL none As.length) (hv : Cond.instanceMethod y ∈ big) (hi : y.name = "<init>") (hw : Cond.methodLinkNest own index y "TombLane" ∈ nn) (hR : rm.frames + 1 ≤ R.frames ∧ 8 + (yL + 11) + rm.locals ≤ R.locals)
    (hP : va_P κ.2.2.1.1.1 vwCl (wX ++ wP) H) (hD : va_D κ.2.2.1.2 (wX ++ wP)) (hS : va_S κ.2.2.1.2 κ.2.1.1.heap H locs) (hF : ∀ q, va_A (wX ++ wP) H.size q → κ.2.2.1.2 q)
    (hl : lv_has ls nL lv) (hst : st = As.reverse ++ .ref b :: rest) (hrest : (rest.map fun v => v.category).sum ≤ 8) (hc : cs + rm.cells ≤ R.cells ∧ ss + rm.slots ≤ R.slots) (hd : dz cc pc (.invokespecial index) 3 q) :
    RunK κ g H locs ls cs ss pc st rest rm (wX ++ wP) Ec (Value.ref b :: As).toArray := by
  obtain ⟨hd, rfl⟩ := hd
  have hp := pre_call C (args := .ref b :: As) hP hD hS hF
  have hcn := cn_of C ho hw hR
  have hx := id C
  obtain ⟨h1, h2, h3, h4, h5, h6, h7, h8, -⟩ := hx
  refine va_runIN (Ts := big) (cc := cc) (nL := nL) (own := own) (n := As.length) (ws := .code y yc yL none :: big) (bytes := yc) (maxL := yL) ⟨h4, h5, h6, h7, h8⟩ (by rw [h1]; exact hM H.size) ⟨hcn, hi, C.w hv⟩ hp rfl rfl hl.1 hst (lv_room hrest) hd (by rw [h3]; exact hc)
/-- behind the call -/
theorem run_tail {wc : va_W} {a : Array Value} (hr : RunK κ g H locs ls cs ss pc st rest rm wc Ec a) (hS : va_S κ.2.2.1.2 κ.2.1.1.heap H locs) (hF : ∀ q, va_A wc H.size q → κ.2.2.1.2 q)
    (kk : ∀ (v : Option Value) (X' P' : va_W) (H1 : Heap) (locs1 : List Loc), Ec v X' P' → va_P g.1 vwCl (X' ++ P') H1 → va_D (va_A wc H.size) (X' ++ P') → (∀ q : Nat, q < H.size → ¬ va_A wc H.size q → H1[q]? = H[q]?) → va_S κ.2.2.1.2 κ.2.1.1.heap H1 locs1 → W κ.1.1 κ.1.2.1 κ.1.2.2.1 κ.1.2.2.2 κ.2.1.1 κ.2.1.2.1 κ.2.1.2.2.1 κ.2.1.2.2.2.1 κ.2.1.2.2.2.2.1 κ.2.1.2.2.2.2.2 H1 locs1 (cs + rm.cells) (ss + rm.slots) κ.2.2.2 (F0 κ.2.1.2.1 (pc + 3) ls (v.toList ++ rest))) :
    W κ.1.1 κ.1.2.1 κ.1.2.2.1 κ.1.2.2.2 κ.2.1.1 κ.2.1.2.1 κ.2.1.2.2.1 κ.2.1.2.2.2.1 κ.2.1.2.2.2.2.1 κ.2.1.2.2.2.2.2 H locs cs ss κ.2.2.2 (F0 κ.2.1.2.1 pc ls st) := by
  intro T hT Y
  obtain ⟨v, st₀, t, T', L, h0, X', hL, e1, e2, ⟨⟨v1, X1, P1, hv, hp, hb, hdd⟩, hz, hk⟩, sp⟩ := hr T hT Y
  cases hv
  rw [h0] at hz hk
  obtain ⟨t2, a1, b1⟩ := kk v X1 P1 T'.heap (locs ++ L) hp (by rw [e1]; exact hb) hdd (fun q h1 h2 => by rw [e1]; exact hk q h1 h2)
    ⟨Nat.le_trans hS.1 (by rw [e1]; exact hz), fun q h1 h2 => by rw [e1, hk q (Nat.lt_of_lt_of_le h1 hS.1) (fun z => h2 (hF q z))]; exact hS.2.1 q h1 h2, fun q hq => by
      rcases List.mem_append.mp hq with h | h
      · exact hS.2.2 q h
      · exact hF _ (hL q h)⟩ T' rfl X'
  exact ⟨t2, sp t2 a1, b1⟩
theorem fr_core {D : va_G} {A : Nat → Prop} {wc wr w1 : va_W} {H H1 : Heap} (hPr : va_P D vwCl wr H) (hDr : va_D A wr) (hap : ∀ x ∈ wr, ∀ y ∈ wc, x.1 ≠ y.1) (hk : ∀ q : Nat, q < H.size → ¬ va_A wc H.size q → H1[q]? = H[q]?) (hF : ∀ q, va_A wc H.size q → A q) (hP1 : va_P D vwCl w1 H1) (hD1 : va_D (va_A wc H.size) w1) : va_P D vwCl (wr ++ w1) H1 ∧ va_D A (wr ++ w1) := by
  have key : ∀ x ∈ wr, x.1 < H.size ∧ ¬ va_A wc H.size x.1 := by
    intro x hx
    have hl := (P_iff.mp hPr x hx).lt
    refine ⟨hl, fun h => ?_⟩
    rcases h with ⟨k, e, h⟩ | h
    · exact hap x hx _ (List.mem_of_getElem? h) rfl
    · omega
  refine ⟨P_iff.mpr fun x hx => ?_, D_app hDr (hD1.weaken (fun _ q _ h => hF q.1 h)) (fun x hx y hy he => ?_)⟩
  · rcases List.mem_append.mp hx with h | h
    · exact (P_iff.mp hPr x h).kept (hk x.1 (key x h).1 (key x h).2)
    · exact P_iff.mp hP1 x h
  · exact (key x hx).2 (by rw [he]; exact (D_iff.mp hD1).2 y hy)
theorem free_of {A : Nat → Prop} {ws wc : va_W} {H0 H : Heap} {locs : List Loc} (hD : va_D A ws) (hS : va_S A H0 H locs) (hA : ∀ q, H0.size ≤ q → A q) (hsub : ∀ x ∈ wc, x ∈ ws) : ∀ q, va_A wc H.size q → A q := by
  intro q h
  rcases h with ⟨k, e, h⟩ | h
  · exact (D_iff.mp hD).2 (q, e) (hsub _ (List.mem_of_getElem? h))
  · exact hA q (Nat.le_trans hS.1 h)
theorem ord_P {D : va_G} {H : Heap} {Y Z : va_W} {ord : List Nat} (h : va_P D vwCl (Y ++ Z) H) : va_P D vwCl (pk Y ord ++ Z) H := by
  rw [P_iff] at h ⊢
  exact fun q hq => (List.mem_append.mp hq).elim (fun z => h q (List.mem_append_left _ (pk_in' z))) (fun z => h q (List.mem_append_right _ z))
theorem ord_D {A : Nat → Prop} {Y Z : va_W} {ord : List Nat} (hn : va_nd ord = true) (h : va_D A (Y ++ Z)) : va_D A (pk Y ord ++ Z) :=
  D_app (pk_D (D_left h) ord hn) (D_right h) (fun x hx y hy => D_apart h x (pk_in' hx) y hy)
end GC
end
section
def M0 (l : Launch) (g : Gx) (y : MethodName) (cc : ByteArray) (nL : Nat) (ret : Option FieldType) (rm : Room) (args : List Value) (X : va_W) (v : Option Value) (X1 : va_W) : Prop := MP l g y cc nL ret rm args X [] (fun v2 X2 P2 => v2 = v ∧ X2 = X1 ∧ P2 = [])
section GD
variable {κ : Kx} {l : Launch} {g : Gx} {R : Room} {cc : ByteArray} {nL : Nat} {own name : String} {ret : Option FieldType} {E : Ex} {cs ss pc q : Nat} {lv : List (Nat × Value)} {st : List Value} {X P : va_W}
variable {y : MethodName} {yc : ByteArray} {yL n index : Nat} {yr : Option FieldType} {rm : Room} {b : Nat} {As rest : List Value} {Ec : Ex}
theorem g_ord {X1 : va_W} (ord : List Nat) (hn : va_nd ord = true) (h : pk X ord = X1) (k : G κ nL cs ss pc lv st X1 P) : G κ nL cs ss pc lv st X P := by
  subst h
  exact fun H locs ls hl hP hD hS => k H locs ls hl (ord_P hP) (ord_D hn hD) hS
theorem rcv_of (C : zC κ l g R cc nL own name ret E) {ws : va_W} {H : Heap} {Cn : String} (hP : va_P κ.2.2.1.1.1 vwCl ws H) (h : rcv ws b Cn) : ∃ cell : Cell, H[b]? = some cell ∧ cell.vm.isStatics = false ∧ κ.2.1.1.vm.findClass Cn = some cell.cls := by
  obtain ⟨k, ci, fs, T, N, h1, h2⟩ := h
  exact va_recv C.K hP h2 h1
theorem g_callVE (C : zC κ l g R cc nL own name ret E) {Xc : va_W} (hM : MP l g y yc yL yr rm (.ref b :: As) Xc [] Ec) (isC isR : List Nat) (hXc : pk X isC = Xc) (hnd : va_nd isC = true ∧ va_nd isR = true ∧ ∀ i ∈ isR, i ∉ isC) (hPn : ∀ v X' P', Ec v X' P' → P' = []) (ho : mok y yc yL yr As.length) (hv : mov y) (hw : Cond.methodLink own index y ∈ big) (hR : rm.frames + 1 ≤ R.frames ∧ 8 + (yL + 11) + rm.locals ≤ R.locals) (hrc : rcv (X ++ P) b y.cls) (hst : st = As.reverse ++ .ref b :: rest) (hrest : (rest.map fun v => v.category).sum ≤ 8) (hc : cs + rm.cells ≤ R.cells ∧ ss + rm.slots ≤ R.slots) (hd : dz cc pc (.invokevirtual index) 3 q)
    (kk : ∀ (v : Option Value) (X' : va_W), Ec v X' [] → G κ nL (cs + rm.cells) (ss + rm.slots) q lv (v.toList ++ rest) (pk X isR ++ X') P) : G κ nL cs ss pc lv st X P := by
  intro H locs ls hl hP hD hS
  subst hXc
  have hsub : ∀ x ∈ pk X isC ++ [], x ∈ X ++ P := fun x hx => (List.mem_append.mp hx).elim (fun z => List.mem_append_left _ (pk_in' z)) (fun z => absurd z List.not_mem_nil)
  have hF := free_of hD hS C.A hsub
  have hPc : va_P κ.2.2.1.1.1 vwCl (pk X isC ++ []) H := P_iff.mpr (fun x hx => P_iff.mp hP x (hsub x hx))
  have hDc : va_D κ.2.2.1.2 (pk X isC ++ []) := by rw [List.append_nil]; exact pk_D (D_left hD) isC hnd.1
  have hr := run_V C hM ho hv hw hR (rcv_of C hP hrc) hPc hDc hS hF hl hst hrest hc hd
  refine run_tail hr hS hF (fun v X' P' H1 l1 hE hP1 hD1 hk hS1 => ?_)
  have hq := hd.2
  subst hq
  have hn0 := hPn v X' P' hE
  subst hn0
  have hap : ∀ x ∈ pk X isR ++ P, ∀ y ∈ pk X isC ++ [], x.1 ≠ y.1 := fun x hx y hy => (List.mem_append.mp hy).elim (fun z => (List.mem_append.mp hx).elim (fun z2 => pk_apart (D_left hD) hnd.2.2 x z2 y z) (fun z2 => (D_apart hD y (pk_in' z) x z2).symm)) (fun z => absurd z List.not_mem_nil)
  obtain ⟨a1, a2⟩ := fr_core (w1 := X' ++ []) (ord_P (ord := isR) hP) (ord_D hnd.2.1 hD) hap hk hF (by rw [C.2.1]; exact hP1) hD1
  have hperm : ((pk X isR ++ P) ++ (X' ++ [])).Perm ((pk X isR ++ X') ++ P) := by
    rw [List.append_nil, List.append_assoc, List.append_assoc]
    exact List.Perm.append_left _ List.perm_append_comm
  exact kk v X' hE H1 l1 ls hl (P_perm hperm a1) (D_perm hperm a2) hS1
theorem g_callVP (C : zC κ l g R cc nL own name ret E) {Xc : va_W} (hM : MP l g y yc yL yr rm (.ref b :: As) Xc P Ec) (isC isR : List Nat) (hXc : pk X isC = Xc) (hnd : va_nd isC = true ∧ va_nd isR = true ∧ ∀ i ∈ isR, i ∉ isC)  (ho : mok y yc yL yr As.length) (hv : mov y) (hw : Cond.methodLink own index y ∈ big) (hR : rm.frames + 1 ≤ R.frames ∧ 8 + (yL + 11) + rm.locals ≤ R.locals) (hrc : rcv (X ++ P) b y.cls) (hst : st = As.reverse ++ .ref b :: rest) (hrest : (rest.map fun v => v.category).sum ≤ 8) (hc : cs + rm.cells ≤ R.cells ∧ ss + rm.slots ≤ R.slots) (hd : dz cc pc (.invokevirtual index) 3 q)
    (kk : ∀ (v : Option Value) (X' : va_W) (P' : va_W), Ec v X' P' → G κ nL (cs + rm.cells) (ss + rm.slots) q lv (v.toList ++ rest) (pk X isR ++ X') P') : G κ nL cs ss pc lv st X P := by
  intro H locs ls hl hP hD hS
  subst hXc
  have hsub : ∀ x ∈ pk X isC ++ P, x ∈ X ++ P := fun x hx => (List.mem_append.mp hx).elim (fun z => List.mem_append_left _ (pk_in' z)) (fun z => List.mem_append_right _ z)
  have hF := free_of hD hS C.A hsub
  have hPc : va_P κ.2.2.1.1.1 vwCl (pk X isC ++ P) H := P_iff.mpr (fun x hx => P_iff.mp hP x (hsub x hx))
  have hDc : va_D κ.2.2.1.2 (pk X isC ++ P) := ord_D hnd.1 hD
  have hr := run_V C hM ho hv hw hR (rcv_of C hP hrc) hPc hDc hS hF hl hst hrest hc hd
  refine run_tail hr hS hF (fun v X' P' H1 l1 hE hP1 hD1 hk hS1 => ?_)
  have hq := hd.2
  subst hq
  have hap : ∀ x ∈ pk X isR, ∀ y ∈ pk X isC ++ P, x.1 ≠ y.1 := fun x hx y hy => (List.mem_append.mp hy).elim (fun z => pk_apart (D_left hD) hnd.2.2 x hx y z) (fun z => D_apart hD x (pk_in' hx) y z)
  obtain ⟨a1, a2⟩ := fr_core (w1 := X' ++ P') (P_left (ord_P (ord := isR) hP)) (pk_D (D_left hD) isR hnd.2.1) hap hk hF (by rw [C.2.1]; exact hP1) hD1
  rw [← List.append_assoc] at a1 a2
  exact kk v X' P' hE H1 l1 ls hl a1 a2 hS1
theorem g_callV0 (C : zC κ l g R cc nL own name ret E) {v : Option Value} {Xc X1 Xn : va_W} (hM : M0 l g y yc yL yr rm (.ref b :: As) Xc v X1) (isC isR ord : List Nat) (hXc : pk X isC = Xc) (hnd : va_nd isC = true ∧ va_nd isR = true ∧ ∀ i ∈ isR, i ∉ isC) (hno : va_nd ord = true) (hXn : pk (pk X isR ++ X1) ord = Xn) (ho : mok y yc yL yr As.length) (hv : mov y) (hw : Cond.methodLink own index y ∈ big) (hR : rm.frames + 1 ≤ R.frames ∧ 8 + (yL + 11) + rm.locals ≤ R.locals) (hrc : rcv (X ++ P) b y.cls) (hst : st = As.reverse ++ .ref b :: rest) (hrest : (rest.map fun v => v.category).sum ≤ 8) (hc : cs + rm.cells ≤ R.cells ∧ ss + rm.slots ≤ R.slots) (hd : dz cc pc (.invokevirtual index) 3 q)
    (kk : G κ nL (cs + rm.cells) (ss + rm.slots) q lv (v.toList ++ rest) Xn P) : G κ nL cs ss pc lv st X P := by
  refine g_callVE C hM isC isR hXc hnd (fun _ _ _ h => h.2.2) ho hv hw hR hrc hst hrest hc hd (fun v2 X2 h => ?_)
  obtain ⟨rfl, rfl, -⟩ := h
  exact g_ord ord hno hXn kk
theorem g_callVNE (C : zC κ l g R cc nL own name ret E) {Xc : va_W} (hM : MP l g y yc yL yr rm (.ref b :: As) Xc [] Ec) (isC isR : List Nat) (hXc : pk X isC = Xc) (hnd : va_nd isC = true ∧ va_nd isR = true ∧ ∀ i ∈ isR, i ∉ isC) (hPn : ∀ v X' P', Ec v X' P' → P' = []) (ho : mok y yc yL yr As.length) (hv : mov y) (hw : Cond.methodLinkNest own index y "TombLane" ∈ nn) (hR : rm.frames + 1 ≤ R.frames ∧ 8 + (yL + 11) + rm.locals ≤ R.locals) (hrc : rcv (X ++ P) b y.cls) (hst : st = As.reverse ++ .ref b :: rest) (hrest : (rest.map fun v => v.category).sum ≤ 8) (hc : cs + rm.cells ≤ R.cells ∧ ss + rm.slots ≤ R.slots) (hd : dz cc pc (.invokevirtual index) 3 q)
    (kk : ∀ (v : Option Value) (X' : va_W), Ec v X' [] → G κ nL (cs + rm.cells) (ss + rm.slots) q lv (v.toList ++ rest) (pk X isR ++ X') P) : G κ nL cs ss pc lv st X P := by
  intro H locs ls hl hP hD hS
  subst hXc
  have hsub : ∀ x ∈ pk X isC ++ [], x ∈ X ++ P := fun x hx => (List.mem_append.mp hx).elim (fun z => List.mem_append_left _ (pk_in' z)) (fun z => absurd z List.not_mem_nil)
  have hF := free_of hD hS C.A hsub
  have hPc : va_P κ.2.2.1.1.1 vwCl (pk X isC ++ []) H := P_iff.mpr (fun x hx => P_iff.mp hP x (hsub x hx))
  have hDc : va_D κ.2.2.1.2 (pk X isC ++ []) := by rw [List.append_nil]; exact pk_D (D_left hD) isC hnd.1
  have hr := run_VN C hM ho hv hw hR (rcv_of C hP hrc) hPc hDc hS hF hl hst hrest hc hd
  refine run_tail hr hS hF (fun v X' P' H1 l1 hE hP1 hD1 hk hS1 => ?_)
  have hq := hd.2
  subst hq
  have hn0 := hPn v X' P' hE
  subst hn0
  have hap : ∀ x ∈ pk X isR ++ P, ∀ y ∈ pk X isC ++ [], x.1 ≠ y.1 := fun x hx y hy => (List.mem_append.mp hy).elim (fun z => (List.mem_append.mp hx).elim (fun z2 => pk_apart (D_left hD) hnd.2.2 x z2 y z) (fun z2 => (D_apart hD y (pk_in' z) x z2).symm)) (fun z => absurd z List.not_mem_nil)
  obtain ⟨a1, a2⟩ := fr_core (w1 := X' ++ []) (ord_P (ord := isR) hP) (ord_D hnd.2.1 hD) hap hk hF (by rw [C.2.1]; exact hP1) hD1
  have hperm : ((pk X isR ++ P) ++ (X' ++ [])).Perm ((pk X isR ++ X') ++ P) := by
    rw [List.append_nil, List.append_assoc, List.append_assoc]
    exact List.Perm.append_left _ List.perm_append_comm
  exact kk v X' hE H1 l1 ls hl (P_perm hperm a1) (D_perm hperm a2) hS1
theorem g_callVNP (C : zC κ l g R cc nL own name ret E) {Xc : va_W} (hM : MP l g y yc yL yr rm (.ref b :: As) Xc P Ec) (isC isR : List Nat) (hXc : pk X isC = Xc) (hnd : va_nd isC = true ∧ va_nd isR = true ∧ ∀ i ∈ isR, i ∉ isC)  (ho : mok y yc yL yr As.length) (hv : mov y) (hw : Cond.methodLinkNest own index y "TombLane" ∈ nn) (hR : rm.frames + 1 ≤ R.frames ∧ 8 + (yL + 11) + rm.locals ≤ R.locals) (hrc : rcv (X ++ P) b y.cls) (hst : st = As.reverse ++ .ref b :: rest) (hrest : (rest.map fun v => v.category).sum ≤ 8) (hc : cs + rm.cells ≤ R.cells ∧ ss + rm.slots ≤ R.slots) (hd : dz cc pc (.invokevirtual index) 3 q)
    (kk : ∀ (v : Option Value) (X' : va_W) (P' : va_W), Ec v X' P' → G κ nL (cs + rm.cells) (ss + rm.slots) q lv (v.toList ++ rest) (pk X isR ++ X') P') : G κ nL cs ss pc lv st X P := by
  intro H locs ls hl hP hD hS
  subst hXc
  have hsub : ∀ x ∈ pk X isC ++ P, x ∈ X ++ P := fun x hx => (List.mem_append.mp hx).elim (fun z => List.mem_append_left _ (pk_in' z)) (fun z => List.mem_append_right _ z)
  have hF := free_of hD hS C.A hsub
  have hPc : va_P κ.2.2.1.1.1 vwCl (pk X isC ++ P) H := P_iff.mpr (fun x hx => P_iff.mp hP x (hsub x hx))
  have hDc : va_D κ.2.2.1.2 (pk X isC ++ P) := ord_D hnd.1 hD
  have hr := run_VN C hM ho hv hw hR (rcv_of C hP hrc) hPc hDc hS hF hl hst hrest hc hd
  refine run_tail hr hS hF (fun v X' P' H1 l1 hE hP1 hD1 hk hS1 => ?_)
  have hq := hd.2
  subst hq
  have hap : ∀ x ∈ pk X isR, ∀ y ∈ pk X isC ++ P, x.1 ≠ y.1 := fun x hx y hy => (List.mem_append.mp hy).elim (fun z => pk_apart (D_left hD) hnd.2.2 x hx y z) (fun z => D_apart hD x (pk_in' hx) y z)
  obtain ⟨a1, a2⟩ := fr_core (w1 := X' ++ P') (P_left (ord_P (ord := isR) hP)) (pk_D (D_left hD) isR hnd.2.1) hap hk hF (by rw [C.2.1]; exact hP1) hD1
  rw [← List.append_assoc] at a1 a2
  exact kk v X' P' hE H1 l1 ls hl a1 a2 hS1
theorem g_callVN0 (C : zC κ l g R cc nL own name ret E) {v : Option Value} {Xc X1 Xn : va_W} (hM : M0 l g y yc yL yr rm (.ref b :: As) Xc v X1) (isC isR ord : List Nat) (hXc : pk X isC = Xc) (hnd : va_nd isC = true ∧ va_nd isR = true ∧ ∀ i ∈ isR, i ∉ isC) (hno : va_nd ord = true) (hXn : pk (pk X isR ++ X1) ord = Xn) (ho : mok y yc yL yr As.length) (hv : mov y) (hw : Cond.methodLinkNest own index y "TombLane" ∈ nn) (hR : rm.frames + 1 ≤ R.frames ∧ 8 + (yL + 11) + rm.locals ≤ R.locals) (hrc : rcv (X ++ P) b y.cls) (hst : st = As.reverse ++ .ref b :: rest) (hrest : (rest.map fun v => v.category).sum ≤ 8) (hc : cs + rm.cells ≤ R.cells ∧ ss + rm.slots ≤ R.slots) (hd : dz cc pc (.invokevirtual index) 3 q)
    (kk : G κ nL (cs + rm.cells) (ss + rm.slots) q lv (v.toList ++ rest) Xn P) : G κ nL cs ss pc lv st X P := by
  refine g_callVNE C hM isC isR hXc hnd (fun _ _ _ h => h.2.2) ho hv hw hR hrc hst hrest hc hd (fun v2 X2 h => ?_)
  obtain ⟨rfl, rfl, -⟩ := h
  exact g_ord ord hno hXn kk
theorem g_callSE (C : zC κ l g R cc nL own name ret E) {Xc : va_W} (hM : MP l g y yc yL yr rm As Xc [] Ec) (isC isR : List Nat) (hXc : pk X isC = Xc) (hnd : va_nd isC = true ∧ va_nd isR = true ∧ ∀ i ∈ isR, i ∉ isC) (hPn : ∀ v X' P', Ec v X' P' → P' = []) (ho : mok y yc yL yr As.length) (hv : Cond.static y ∈ big) (hw : Cond.methodLink own index y ∈ big) (hR : rm.frames + 1 ≤ R.frames ∧ 8 + (yL + 11) + rm.locals ≤ R.locals) (hst : st = As.reverse ++ rest) (hrest : (rest.map fun v => v.category).sum ≤ 8) (hc : cs + rm.cells ≤ R.cells ∧ ss + rm.slots ≤ R.slots) (hd : dz cc pc (.invokestatic index) 3 q)
    (kk : ∀ (v : Option Value) (X' : va_W), Ec v X' [] → G κ nL (cs + rm.cells) (ss + rm.slots) q lv (v.toList ++ rest) (pk X isR ++ X') P) : G κ nL cs ss pc lv st X P := by
  intro H locs ls hl hP hD hS
  subst hXc
  have hsub : ∀ x ∈ pk X isC ++ [], x ∈ X ++ P := fun x hx => (List.mem_append.mp hx).elim (fun z => List.mem_append_left _ (pk_in' z)) (fun z => absurd z List.not_mem_nil)
  have hF := free_of hD hS C.A hsub
  have hPc : va_P κ.2.2.1.1.1 vwCl (pk X isC ++ []) H := P_iff.mpr (fun x hx => P_iff.mp hP x (hsub x hx))
  have hDc : va_D κ.2.2.1.2 (pk X isC ++ []) := by rw [List.append_nil]; exact pk_D (D_left hD) isC hnd.1
  have hr := run_S C hM ho hv hw hR hPc hDc hS hF hl hst hrest hc hd
  refine run_tail hr hS hF (fun v X' P' H1 l1 hE hP1 hD1 hk hS1 => ?_)
  have hq := hd.2
  subst hq
  have hn0 := hPn v X' P' hE
  subst hn0
  have hap : ∀ x ∈ pk X isR ++ P, ∀ y ∈ pk X isC ++ [], x.1 ≠ y.1 := fun x hx y hy => (List.mem_append.mp hy).elim (fun z => (List.mem_append.mp hx).elim (fun z2 => pk_apart (D_left hD) hnd.2.2 x z2 y z) (fun z2 => (D_apart hD y (pk_in' z) x z2).symm)) (fun z => absurd z List.not_mem_nil)
  obtain ⟨a1, a2⟩ := fr_core (w1 := X' ++ []) (ord_P (ord := isR) hP) (ord_D hnd.2.1 hD) hap hk hF (by rw [C.2.1]; exact hP1) hD1
  have hperm : ((pk X isR ++ P) ++ (X' ++ [])).Perm ((pk X isR ++ X') ++ P) := by
    rw [List.append_nil, List.append_assoc, List.append_assoc]
    exact List.Perm.append_left _ List.perm_append_comm
  exact kk v X' hE H1 l1 ls hl (P_perm hperm a1) (D_perm hperm a2) hS1
theorem g_callSP (C : zC κ l g R cc nL own name ret E) {Xc : va_W} (hM : MP l g y yc yL yr rm As Xc P Ec) (isC isR : List Nat) (hXc : pk X isC = Xc) (hnd : va_nd isC = true ∧ va_nd isR = true ∧ ∀ i ∈ isR, i ∉ isC)  (ho : mok y yc yL yr As.length) (hv : Cond.static y ∈ big) (hw : Cond.methodLink own index y ∈ big) (hR : rm.frames + 1 ≤ R.frames ∧ 8 + (yL + 11) + rm.locals ≤ R.locals) (hst : st = As.reverse ++ rest) (hrest : (rest.map fun v => v.category).sum ≤ 8) (hc : cs + rm.cells ≤ R.cells ∧ ss + rm.slots ≤ R.slots) (hd : dz cc pc (.invokestatic index) 3 q)
    (kk : ∀ (v : Option Value) (X' : va_W) (P' : va_W), Ec v X' P' → G κ nL (cs + rm.cells) (ss + rm.slots) q lv (v.toList ++ rest) (pk X isR ++ X') P') : G κ nL cs ss pc lv st X P := by
  intro H locs ls hl hP hD hS
  subst hXc
  have hsub : ∀ x ∈ pk X isC ++ P, x ∈ X ++ P := fun x hx => (List.mem_append.mp hx).elim (fun z => List.mem_append_left _ (pk_in' z)) (fun z => List.mem_append_right _ z)
  have hF := free_of hD hS C.A hsub
  have hPc : va_P κ.2.2.1.1.1 vwCl (pk X isC ++ P) H := P_iff.mpr (fun x hx => P_iff.mp hP x (hsub x hx))
  have hDc : va_D κ.2.2.1.2 (pk X isC ++ P) := ord_D hnd.1 hD
  have hr := run_S C hM ho hv hw hR hPc hDc hS hF hl hst hrest hc hd
  refine run_tail hr hS hF (fun v X' P' H1 l1 hE hP1 hD1 hk hS1 => ?_)
  have hq := hd.2
  subst hq
  have hap : ∀ x ∈ pk X isR, ∀ y ∈ pk X isC ++ P, x.1 ≠ y.1 := fun x hx y hy => (List.mem_append.mp hy).elim (fun z => pk_apart (D_left hD) hnd.2.2 x hx y z) (fun z => D_apart hD x (pk_in' hx) y z)
  obtain ⟨a1, a2⟩ := fr_core (w1 := X' ++ P') (P_left (ord_P (ord := isR) hP)) (pk_D (D_left hD) isR hnd.2.1) hap hk hF (by rw [C.2.1]; exact hP1) hD1
  rw [← List.append_assoc] at a1 a2
  exact kk v X' P' hE H1 l1 ls hl a1 a2 hS1
theorem g_callS0 (C : zC κ l g R cc nL own name ret E) {v : Option Value} {Xc X1 Xn : va_W} (hM : M0 l g y yc yL yr rm As Xc v X1) (isC isR ord : List Nat) (hXc : pk X isC = Xc) (hnd : va_nd isC = true ∧ va_nd isR = true ∧ ∀ i ∈ isR, i ∉ isC) (hno : va_nd ord = true) (hXn : pk (pk X isR ++ X1) ord = Xn) (ho : mok y yc yL yr As.length) (hv : Cond.static y ∈ big) (hw : Cond.methodLink own index y ∈ big) (hR : rm.frames + 1 ≤ R.frames ∧ 8 + (yL + 11) + rm.locals ≤ R.locals) (hst : st = As.reverse ++ rest) (hrest : (rest.map fun v => v.category).sum ≤ 8) (hc : cs + rm.cells ≤ R.cells ∧ ss + rm.slots ≤ R.slots) (hd : dz cc pc (.invokestatic index) 3 q)
    (kk : G κ nL (cs + rm.cells) (ss + rm.slots) q lv (v.toList ++ rest) Xn P) : G κ nL cs ss pc lv st X P := by
  refine g_callSE C hM isC isR hXc hnd (fun _ _ _ h => h.2.2) ho hv hw hR hst hrest hc hd (fun v2 X2 h => ?_)
  obtain ⟨rfl, rfl, -⟩ := h
  exact g_ord ord hno hXn kk
theorem g_callSNE (C : zC κ l g R cc nL own name ret E) {Xc : va_W} (hM : MP l g y yc yL yr rm As Xc [] Ec) (isC isR : List Nat) (hXc : pk X isC = Xc) (hnd : va_nd isC = true ∧ va_nd isR = true ∧ ∀ i ∈ isR, i ∉ isC) (hPn : ∀ v X' P', Ec v X' P' → P' = []) (ho : mok y yc yL yr As.length) (hv : Cond.static y ∈ big) (hw : Cond.methodLinkNest own index y "TombLane" ∈ nn) (hR : rm.frames + 1 ≤ R.frames ∧ 8 + (yL + 11) + rm.locals ≤ R.locals) (hst : st = As.reverse ++ rest) (hrest : (rest.map fun v => v.category).sum ≤ 8) (hc : cs + rm.cells ≤ R.cells ∧ ss + rm.slots ≤ R.slots) (hd : dz cc pc (.invokestatic index) 3 q)
    (kk : ∀ (v : Option Value) (X' : va_W), Ec v X' [] → G κ nL (cs + rm.cells) (ss + rm.slots) q lv (v.toList ++ rest) (pk X isR ++ X') P) : G κ nL cs ss pc lv st X P := by
  intro H locs ls hl hP hD hS
  subst hXc
  have hsub : ∀ x ∈ pk X isC ++ [], x ∈ X ++ P := fun x hx => (List.mem_append.mp hx).elim (fun z => List.mem_append_left _ (pk_in' z)) (fun z => absurd z List.not_mem_nil)
  have hF := free_of hD hS C.A hsub
  have hPc : va_P κ.2.2.1.1.1 vwCl (pk X isC ++ []) H := P_iff.mpr (fun x hx => P_iff.mp hP x (hsub x hx))
  have hDc : va_D κ.2.2.1.2 (pk X isC ++ []) := by rw [List.append_nil]; exact pk_D (D_left hD) isC hnd.1
  have hr := run_SN C hM ho hv hw hR hPc hDc hS hF hl hst hrest hc hd
  refine run_tail hr hS hF (fun v X' P' H1 l1 hE hP1 hD1 hk hS1 => ?_)
  have hq := hd.2
  subst hq
  have hn0 := hPn v X' P' hE
  subst hn0
  have hap : ∀ x ∈ pk X isR ++ P, ∀ y ∈ pk X isC ++ [], x.1 ≠ y.1 := fun x hx y hy => (List.mem_append.mp hy).elim (fun z => (List.mem_append.mp hx).elim (fun z2 => pk_apart (D_left hD) hnd.2.2 x z2 y z) (fun z2 => (D_apart hD y (pk_in' z) x z2).symm)) (fun z => absurd z List.not_mem_nil)
  obtain ⟨a1, a2⟩ := fr_core (w1 := X' ++ []) (ord_P (ord := isR) hP) (ord_D hnd.2.1 hD) hap hk hF (by rw [C.2.1]; exact hP1) hD1
  have hperm : ((pk X isR ++ P) ++ (X' ++ [])).Perm ((pk X isR ++ X') ++ P) := by
    rw [List.append_nil, List.append_assoc, List.append_assoc]
    exact List.Perm.append_left _ List.perm_append_comm
  exact kk v X' hE H1 l1 ls hl (P_perm hperm a1) (D_perm hperm a2) hS1
theorem g_callSNP (C : zC κ l g R cc nL own name ret E) {Xc : va_W} (hM : MP l g y yc yL yr rm As Xc P Ec) (isC isR : List Nat) (hXc : pk X isC = Xc) (hnd : va_nd isC = true ∧ va_nd isR = true ∧ ∀ i ∈ isR, i ∉ isC)  (ho : mok y yc yL yr As.length) (hv : Cond.static y ∈ big) (hw : Cond.methodLinkNest own index y "TombLane" ∈ nn) (hR : rm.frames + 1 ≤ R.frames ∧ 8 + (yL + 11) + rm.locals ≤ R.locals) (hst : st = As.reverse ++ rest) (hrest : (rest.map fun v => v.category).sum ≤ 8) (hc : cs + rm.cells ≤ R.cells ∧ ss + rm.slots ≤ R.slots) (hd : dz cc pc (.invokestatic index) 3 q)
    (kk : ∀ (v : Option Value) (X' : va_W) (P' : va_W), Ec v X' P' → G κ nL (cs + rm.cells) (ss + rm.slots) q lv (v.toList ++ rest) (pk X isR ++ X') P') : G κ nL cs ss pc lv st X P := by
  intro H locs ls hl hP hD hS
  subst hXc
  have hsub : ∀ x ∈ pk X isC ++ P, x ∈ X ++ P := fun x hx => (List.mem_append.mp hx).elim (fun z => List.mem_append_left _ (pk_in' z)) (fun z => List.mem_append_right _ z)
  have hF := free_of hD hS C.A hsub
  have hPc : va_P κ.2.2.1.1.1 vwCl (pk X isC ++ P) H := P_iff.mpr (fun x hx => P_iff.mp hP x (hsub x hx))
  have hDc : va_D κ.2.2.1.2 (pk X isC ++ P) := ord_D hnd.1 hD
  have hr := run_SN C hM ho hv hw hR hPc hDc hS hF hl hst hrest hc hd
  refine run_tail hr hS hF (fun v X' P' H1 l1 hE hP1 hD1 hk hS1 => ?_)
  have hq := hd.2
  subst hq
  have hap : ∀ x ∈ pk X isR, ∀ y ∈ pk X isC ++ P, x.1 ≠ y.1 := fun x hx y hy => (List.mem_append.mp hy).elim (fun z => pk_apart (D_left hD) hnd.2.2 x hx y z) (fun z => D_apart hD x (pk_in' hx) y z)
  obtain ⟨a1, a2⟩ := fr_core (w1 := X' ++ P') (P_left (ord_P (ord := isR) hP)) (pk_D (D_left hD) isR hnd.2.1) hap hk hF (by rw [C.2.1]; exact hP1) hD1
  rw [← List.append_assoc] at a1 a2
  exact kk v X' P' hE H1 l1 ls hl a1 a2 hS1
theorem g_callSN0 (C : zC κ l g R cc nL own name ret E) {v : Option Value} {Xc X1 Xn : va_W} (hM : M0 l g y yc yL yr rm As Xc v X1) (isC isR ord : List Nat) (hXc : pk X isC = Xc) (hnd : va_nd isC = true ∧ va_nd isR = true ∧ ∀ i ∈ isR, i ∉ isC) (hno : va_nd ord = true) (hXn : pk (pk X isR ++ X1) ord = Xn) (ho : mok y yc yL yr As.length) (hv : Cond.static y ∈ big) (hw : Cond.methodLinkNest own index y "TombLane" ∈ nn) (hR : rm.frames + 1 ≤ R.frames ∧ 8 + (yL + 11) + rm.locals ≤ R.locals) (hst : st = As.reverse ++ rest) (hrest : (rest.map fun v => v.category).sum ≤ 8) (hc : cs + rm.cells ≤ R.cells ∧ ss + rm.slots ≤ R.slots) (hd : dz cc pc (.invokestatic index) 3 q)
    (kk : G κ nL (cs + rm.cells) (ss + rm.slots) q lv (v.toList ++ rest) Xn P) : G κ nL cs ss pc lv st X P := by
  refine g_callSNE C hM isC isR hXc hnd (fun _ _ _ h => h.2.2) ho hv hw hR hst hrest hc hd (fun v2 X2 h => ?_)
  obtain ⟨rfl, rfl, -⟩ := h
  exact g_ord ord hno hXn kk
theorem g_callIE (C : zC κ l g R cc nL own name ret E) {Xc : va_W} (hM : MP l g y yc yL none rm (.ref b :: As) Xc [] Ec) (isC isR : List Nat) (hXc : pk X isC = Xc) (hnd : va_nd isC = true ∧ va_nd isR = true ∧ ∀ i ∈ isR, i ∉ isC) (hPn : ∀ v X' P', Ec v X' P' → P' = []) (ho : mok y yc yL none As.length) (hv : Cond.instanceMethod y ∈ big) (hi : y.name = "<init>") (hw : Cond.methodLink own index y ∈ big) (hR : rm.frames + 1 ≤ R.frames ∧ 8 + (yL + 11) + rm.locals ≤ R.locals) (hst : st = As.reverse ++ .ref b :: rest) (hrest : (rest.map fun v => v.category).sum ≤ 8) (hc : cs + rm.cells ≤ R.cells ∧ ss + rm.slots ≤ R.slots) (hd : dz cc pc (.invokespecial index) 3 q)
    (kk : ∀ (v : Option Value) (X' : va_W), Ec v X' [] → G κ nL (cs + rm.cells) (ss + rm.slots) q lv (v.toList ++ rest) (pk X isR ++ X') P) : G κ nL cs ss pc lv st X P := by
  intro H locs ls hl hP hD hS
  subst hXc
  have hsub : ∀ x ∈ pk X isC ++ [], x ∈ X ++ P := fun x hx => (List.mem_append.mp hx).elim (fun z => List.mem_append_left _ (pk_in' z)) (fun z => absurd z List.not_mem_nil)
  have hF := free_of hD hS C.A hsub
  have hPc : va_P κ.2.2.1.1.1 vwCl (pk X isC ++ []) H := P_iff.mpr (fun x hx => P_iff.mp hP x (hsub x hx))
  have hDc : va_D κ.2.2.1.2 (pk X isC ++ []) := by rw [List.append_nil]; exact pk_D (D_left hD) isC hnd.1
  have hr := run_I C hM ho hv hi hw hR hPc hDc hS hF hl hst hrest hc hd
  refine run_tail hr hS hF (fun v X' P' H1 l1 hE hP1 hD1 hk hS1 => ?_)
  have hq := hd.2
  subst hq
  have hn0 := hPn v X' P' hE
  subst hn0
  have hap : ∀ x ∈ pk X isR ++ P, ∀ y ∈ pk X isC ++ [], x.1 ≠ y.1 := fun x hx y hy => (List.mem_append.mp hy).elim (fun z => (List.mem_append.mp hx).elim (fun z2 => pk_apart (D_left hD) hnd.2.2 x z2 y z) (fun z2 => (D_apart hD y (pk_in' z) x z2).symm)) (fun z => absurd z List.not_mem_nil)
  obtain ⟨a1, a2⟩ := fr_core (w1 := X' ++ []) (ord_P (ord := isR) hP) (ord_D hnd.2.1 hD) hap hk hF (by rw [C.2.1]; exact hP1) hD1
  have hperm : ((pk X isR ++ P) ++ (X' ++ [])).Perm ((pk X isR ++ X') ++ P) := by
    rw [List.append_nil, List.append_assoc, List.append_assoc]
    exact List.Perm.append_left _ List.perm_append_comm
  exact kk v X' hE H1 l1 ls hl (P_perm hperm a1) (D_perm hperm a2) hS1
theorem g_callIP (C : zC κ l g R cc nL own name ret E) {Xc : va_W} (hM : MP l g y yc yL none rm (.ref b :: As) Xc P Ec) (isC isR : List Nat) (hXc : pk X isC = Xc) (hnd : va_nd isC = true ∧ va_nd isR = true ∧ ∀ i ∈ isR, i ∉ isC)  (ho : mok y yc yL none As.length) (hv : Cond.instanceMethod y ∈ big) (hi : y.name = "<init>") (hw : Cond.methodLink own index y ∈ big) (hR : rm.frames + 1 ≤ R.frames ∧ 8 + (yL + 11) + rm.locals ≤ R.locals) (hst : st = As.reverse ++ .ref b :: rest) (hrest : (rest.map fun v => v.category).sum ≤ 8) (hc : cs + rm.cells ≤ R.cells ∧ ss + rm.slots ≤ R.slots) (hd : dz cc pc (.invokespecial index) 3 q)
    (kk : ∀ (v : Option Value) (X' : va_W) (P' : va_W), Ec v X' P' → G κ nL (cs + rm.cells) (ss + rm.slots) q lv (v.toList ++ rest) (pk X isR ++ X') P') : G κ nL cs ss pc lv st X P := by
  intro H locs ls hl hP hD hS
  subst hXc
  have hsub : ∀ x ∈ pk X isC ++ P, x ∈ X ++ P := fun x hx => (List.mem_append.mp hx).elim (fun z => List.mem_append_left _ (pk_in' z)) (fun z => List.mem_append_right _ z)
  have hF := free_of hD hS C.A hsub
  have hPc : va_P κ.2.2.1.1.1 vwCl (pk X isC ++ P) H := P_iff.mpr (fun x hx => P_iff.mp hP x (hsub x hx))
  have hDc : va_D κ.2.2.1.2 (pk X isC ++ P) := ord_D hnd.1 hD
  have hr := run_I C hM ho hv hi hw hR hPc hDc hS hF hl hst hrest hc hd
  refine run_tail hr hS hF (fun v X' P' H1 l1 hE hP1 hD1 hk hS1 => ?_)
  have hq := hd.2
  subst hq
  have hap : ∀ x ∈ pk X isR, ∀ y ∈ pk X isC ++ P, x.1 ≠ y.1 := fun x hx y hy => (List.mem_append.mp hy).elim (fun z => pk_apart (D_left hD) hnd.2.2 x hx y z) (fun z => D_apart hD x (pk_in' hx) y z)
  obtain ⟨a1, a2⟩ := fr_core (w1 := X' ++ P') (P_left (ord_P (ord := isR) hP)) (pk_D (D_left hD) isR hnd.2.1) hap hk hF (by rw [C.2.1]; exact hP1) hD1
  rw [← List.append_assoc] at a1 a2
  exact kk v X' P' hE H1 l1 ls hl a1 a2 hS1
theorem g_callI0 (C : zC κ l g R cc nL own name ret E) {v : Option Value} {Xc X1 Xn : va_W} (hM : M0 l g y yc yL none rm (.ref b :: As) Xc v X1) (isC isR ord : List Nat) (hXc : pk X isC = Xc) (hnd : va_nd isC = true ∧ va_nd isR = true ∧ ∀ i ∈ isR, i ∉ isC) (hno : va_nd ord = true) (hXn : pk (pk X isR ++ X1) ord = Xn) (ho : mok y yc yL none As.length) (hv : Cond.instanceMethod y ∈ big) (hi : y.name = "<init>") (hw : Cond.methodLink own index y ∈ big) (hR : rm.frames + 1 ≤ R.frames ∧ 8 + (yL + 11) + rm.locals ≤ R.locals) (hst : st = As.reverse ++ .ref b :: rest) (hrest : (rest.map fun v => v.category).sum ≤ 8) (hc : cs + rm.cells ≤ R.cells ∧ ss + rm.slots ≤ R.slots) (hd : dz cc pc (.invokespecial index) 3 q)
    (kk : G κ nL (cs + rm.cells) (ss + rm.slots) q lv (v.toList ++ rest) Xn P) : G κ nL cs ss pc lv st X P := by
  refine g_callIE C hM isC isR hXc hnd (fun _ _ _ h => h.2.2) ho hv hi hw hR hst hrest hc hd (fun v2 X2 h => ?_)
  obtain ⟨rfl, rfl, -⟩ := h
  exact g_ord ord hno hXn kk
theorem g_callINE (C : zC κ l g R cc nL own name ret E) {Xc : va_W} (hM : MP l g y yc yL none rm (.ref b :: As) Xc [] Ec) (isC isR : List Nat) (hXc : pk X isC = Xc) (hnd : va_nd isC = true ∧ va_nd isR = true ∧ ∀ i ∈ isR, i ∉ isC) (hPn : ∀ v X' P', Ec v X' P' → P' = []) (ho : mok y yc yL none As.length) (hv : Cond.instanceMethod y ∈ big) (hi : y.name = "<init>") (hw : Cond.methodLinkNest own index y "TombLane" ∈ nn) (hR : rm.frames + 1 ≤ R.frames ∧ 8 + (yL + 11) + rm.locals ≤ R.locals) (hst : st = As.reverse ++ .ref b :: rest) (hrest : (rest.map fun v => v.category).sum ≤ 8) (hc : cs + rm.cells ≤ R.cells ∧ ss + rm.slots ≤ R.slots) (hd : dz cc pc (.invokespecial index) 3 q)
    (kk : ∀ (v : Option Value) (X' : va_W), Ec v X' [] → G κ nL (cs + rm.cells) (ss + rm.slots) q lv (v.toList ++ rest) (pk X isR ++ X') P) : G κ nL cs ss pc lv st X P := by
  intro H locs ls hl hP hD hS
  subst hXc
  have hsub : ∀ x ∈ pk X isC ++ [], x ∈ X ++ P := fun x hx => (List.mem_append.mp hx).elim (fun z => List.mem_append_left _ (pk_in' z)) (fun z => absurd z List.not_mem_nil)
  have hF := free_of hD hS C.A hsub
  have hPc : va_P κ.2.2.1.1.1 vwCl (pk X isC ++ []) H := P_iff.mpr (fun x hx => P_iff.mp hP x (hsub x hx))
  have hDc : va_D κ.2.2.1.2 (pk X isC ++ []) := by rw [List.append_nil]; exact pk_D (D_left hD) isC hnd.1
  have hr := run_IN C hM ho hv hi hw hR hPc hDc hS hF hl hst hrest hc hd
  refine run_tail hr hS hF (fun v X' P' H1 l1 hE hP1 hD1 hk hS1 => ?_)
  have hq := hd.2
  subst hq
  have hn0 := hPn v X' P' hE
  subst hn0
  have hap : ∀ x ∈ pk X isR ++ P, ∀ y ∈ pk X isC ++ [], x.1 ≠ y.1 := fun x hx y hy => (List.mem_append.mp hy).elim (fun z => (List.mem_append.mp hx).elim (fun z2 => pk_apart (D_left hD) hnd.2.2 x z2 y z) (fun z2 => (D_apart hD y (pk_in' z) x z2).symm)) (fun z => absurd z List.not_mem_nil)
  obtain ⟨a1, a2⟩ := fr_core (w1 := X' ++ []) (ord_P (ord := isR) hP) (ord_D hnd.2.1 hD) hap hk hF (by rw [C.2.1]; exact hP1) hD1
  have hperm : ((pk X isR ++ P) ++ (X' ++ [])).Perm ((pk X isR ++ X') ++ P) := by
    rw [List.append_nil, List.append_assoc, List.append_assoc]
    exact List.Perm.append_left _ List.perm_append_comm
  exact kk v X' hE H1 l1 ls hl (P_perm hperm a1) (D_perm hperm a2) hS1
theorem g_callINP (C : zC κ l g R cc nL own name ret E) {Xc : va_W} (hM : MP l g y yc yL none rm (.ref b :: As) Xc P Ec) (isC isR : List Nat) (hXc : pk X isC = Xc) (hnd : va_nd isC = true ∧ va_nd isR = true ∧ ∀ i ∈ isR, i ∉ isC)  (ho : mok y yc yL none As.length) (hv : Cond.instanceMethod y ∈ big) (hi : y.name = "<init>") (hw : Cond.methodLinkNest own index y "TombLane" ∈ nn) (hR : rm.frames + 1 ≤ R.frames ∧ 8 + (yL + 11) + rm.locals ≤ R.locals) (hst : st = As.reverse ++ .ref b :: rest) (hrest : (rest.map fun v => v.category).sum ≤ 8) (hc : cs + rm.cells ≤ R.cells ∧ ss + rm.slots ≤ R.slots) (hd : dz cc pc (.invokespecial index) 3 q)
    (kk : ∀ (v : Option Value) (X' : va_W) (P' : va_W), Ec v X' P' → G κ nL (cs + rm.cells) (ss + rm.slots) q lv (v.toList ++ rest) (pk X isR ++ X') P') : G κ nL cs ss pc lv st X P := by
  intro H locs ls hl hP hD hS
  subst hXc
  have hsub : ∀ x ∈ pk X isC ++ P, x ∈ X ++ P := fun x hx => (List.mem_append.mp hx).elim (fun z => List.mem_append_left _ (pk_in' z)) (fun z => List.mem_append_right _ z)
  have hF := free_of hD hS C.A hsub
  have hPc : va_P κ.2.2.1.1.1 vwCl (pk X isC ++ P) H := P_iff.mpr (fun x hx => P_iff.mp hP x (hsub x hx))
  have hDc : va_D κ.2.2.1.2 (pk X isC ++ P) := ord_D hnd.1 hD
  have hr := run_IN C hM ho hv hi hw hR hPc hDc hS hF hl hst hrest hc hd
  refine run_tail hr hS hF (fun v X' P' H1 l1 hE hP1 hD1 hk hS1 => ?_)
  have hq := hd.2
  subst hq
  have hap : ∀ x ∈ pk X isR, ∀ y ∈ pk X isC ++ P, x.1 ≠ y.1 := fun x hx y hy => (List.mem_append.mp hy).elim (fun z => pk_apart (D_left hD) hnd.2.2 x hx y z) (fun z => D_apart hD x (pk_in' hx) y z)
  obtain ⟨a1, a2⟩ := fr_core (w1 := X' ++ P') (P_left (ord_P (ord := isR) hP)) (pk_D (D_left hD) isR hnd.2.1) hap hk hF (by rw [C.2.1]; exact hP1) hD1
  rw [← List.append_assoc] at a1 a2
  exact kk v X' P' hE H1 l1 ls hl a1 a2 hS1
theorem g_callIN0 (C : zC κ l g R cc nL own name ret E) {v : Option Value} {Xc X1 Xn : va_W} (hM : M0 l g y yc yL none rm (.ref b :: As) Xc v X1) (isC isR ord : List Nat) (hXc : pk X isC = Xc) (hnd : va_nd isC = true ∧ va_nd isR = true ∧ ∀ i ∈ isR, i ∉ isC) (hno : va_nd ord = true) (hXn : pk (pk X isR ++ X1) ord = Xn) (ho : mok y yc yL none As.length) (hv : Cond.instanceMethod y ∈ big) (hi : y.name = "<init>") (hw : Cond.methodLinkNest own index y "TombLane" ∈ nn) (hR : rm.frames + 1 ≤ R.frames ∧ 8 + (yL + 11) + rm.locals ≤ R.locals) (hst : st = As.reverse ++ .ref b :: rest) (hrest : (rest.map fun v => v.category).sum ≤ 8) (hc : cs + rm.cells ≤ R.cells ∧ ss + rm.slots ≤ R.slots) (hd : dz cc pc (.invokespecial index) 3 q)
    (kk : G κ nL (cs + rm.cells) (ss + rm.slots) q lv (v.toList ++ rest) Xn P) : G κ nL cs ss pc lv st X P := by
  refine g_callINE C hM isC isR hXc hnd (fun _ _ _ h => h.2.2) ho hv hi hw hR hst hrest hc hd (fun v2 X2 h => ?_)
  obtain ⟨rfl, rfl, -⟩ := h
  exact g_ord ord hno hXn kk
end GD
end
section
section GN
variable {κ : Kx} {l : Launch} {g : Gx} {R : Room} {cc : ByteArray} {nL : Nat} {own name : String} {ret : Option FieldType} {E : Ex} {cs ss pc q : Nat} {lv : List (Nat × Value)} {st : List Value} {X P : va_W}
theorem push_perm {X P : va_W} {x : Nat × va_E} : ((X ++ P) ++ [x]).Perm ((X ++ [x]) ++ P) := by
  rw [List.append_assoc, List.append_assoc]
  exact List.Perm.append_left _ List.perm_append_comm
theorem g_objInit (C : zC κ l g R cc nL own name ret E) {index a : Nat} (hw : Cond.methodLink own index Lib.objectInit ∈ big) (h2 : Cond.instanceMethod Lib.objectInit ∈ big) (h3 : Cond.code Lib.objectInit ⟨#[0xb1]⟩ 1 none ∈ big) (hf : 1 ≤ R.frames) (hlo : (st.map fun v => v.category).sum + 12 ≤ R.locals) (hd : dz cc pc (.invokespecial index) 3 q) (k : G κ nL cs ss q lv st X P) : G κ nL cs ss pc lv (.ref a :: st) X P := by
  obtain ⟨hd, rfl⟩ := hd
  intro H locs ls hl hP hD hS
  have hx := id C
  obtain ⟨h1, h2', h3', h4, h5, h6, h7, h8, -⟩ := hx
  refine W.objInit h4 h5 h7 (C.w hw) (C.w h2) (C.w h3) (g := F0 κ.2.1.2.1 pc ls (.ref a :: st)) rfl (by rw [h6]; exact hl.1) rfl hd (by rw [h3']; exact hf) (by rw [h3']; show 2 * 0 + _ + 12 ≤ _; omega) ?_
  exact k H locs ls hl hP hD hS
theorem g_new (C : zC κ l g R cc nL own name ret E) {Cn : String} {T : u_T} {N ci index : Nat} {fs : List Value} {ty0 : Nat → FieldType} (hc : vwCl[ci]? = some (Cn, T, N)) (hin : ∀ w ∈ u_ws Cn T N, w ∈ big) (hty : ∀ k, k < N → parseFieldDescriptor (T k).2.2.1 = some (ty0 k)) (w1 : Cond.classLink own index Cn ∈ big) (w2 : Cond.instantiable Cn N ∈ big) (w3 : Cond.initialized Cn ∈ big) (hfs : ∀ j, j < N → defaultValue (ty0 j) = vp_V fs j) (hcc : cs + 1 ≤ R.cells) (hss : ss + N ≤ R.slots) (hd : dz cc pc (.new index) 3 q)
    (k : ∀ a : Nat, (∀ x ∈ X ++ P, x.1 ≠ a) → G κ nL (cs + 1) (ss + N) q lv (.ref a :: st) (X ++ [(a, .inr (ci, fs))]) P) : G κ nL cs ss pc lv st X P := by
  obtain ⟨hd, rfl⟩ := hd
  intro H locs ls hl hP hD hS
  have hx := id C
  obtain ⟨h1, h2', h3', h4, h5, h6, h7, h8, -⟩ := hx
  refine va_new (ci := ci) (fs := fs) h4 h5 h8 hin ty0 hty h7 (C.w w1) (C.w w2) (C.w w3) C.K hP hD hS C.A hc hfs (by rw [h3']; exact hcc) (by rw [h3']; exact hss) hd (fun a H1 hP1 hD1 hS1 => ?_)
  exact k a (fun x hx => D_apart hD1 x hx _ (List.mem_singleton.mpr rfl)) H1 locs ls hl (P_perm push_perm hP1) (D_perm push_perm hD1) hS1
theorem g_newa_i (C : zC κ l g R cc nL own name ret E) {n : Int32} (N : Nat) (hw : Cond.arrayClass .int ∈ big) (hn : ¬ n < 0) (hN : n.toNatClampNeg = N) (hby : N * 8 ≤ 536870912) (hcc : cs + 1 ≤ R.cells) (hss : ss + N ≤ R.slots) (hd : dz cc pc (.newarray .int) 2 q)
    (k : ∀ a : Nat, (∀ x ∈ X ++ P, x.1 ≠ a) → G κ nL (cs + 1) (ss + N) q lv (.ref a :: st) (X ++ [(a, .inl (g.2.1 0, N, .inl (fun _ => 0)))]) P) : G κ nL cs ss pc lv (.int n :: st) X P := by
  obtain ⟨hd, rfl⟩ := hd
  intro H locs ls hl hP hD hS
  have hx := id C
  obtain ⟨h1, h2', h3', h4, h5, h6, h7, h8, -⟩ := hx
  refine va_newa (atype := .int) (a0 := (N, .inl (fun _ => 0))) (ty := .int) h4 h5 (C.w hw) rfl C.K hP hD hS C.A (fun cA => rfl) hn hN (Nat.le_trans (Nat.mul_le_mul_left N (by decide)) hby) (by rw [h3']; exact hcc) (by rw [h3']; exact hss) hd (fun a cA H1 hK1 hP1 hD1 hS1 => ?_)
  have e1 := (hK1.2 5 (cA, .int) rfl).2
  have e2 := (C.K.2 0 (κ.2.2.1.1.2.1 0, .int) rfl).2
  have e3 : cA = g.2.1 0 := by rw [← C.2.1]; exact Option.some.inj (Eq.trans (Eq.symm e1) e2)
  subst e3
  exact k a (fun x hx => D_apart hD1 x hx _ (List.mem_singleton.mpr rfl)) H1 locs ls hl (P_perm push_perm hP1) (D_perm push_perm hD1) hS1
theorem g_newa_l (C : zC κ l g R cc nL own name ret E) {n : Int32} (N : Nat) (hw : Cond.arrayClass .long ∈ big) (hn : ¬ n < 0) (hN : n.toNatClampNeg = N) (hby : N * 8 ≤ 536870912) (hcc : cs + 1 ≤ R.cells) (hss : ss + N ≤ R.slots) (hd : dz cc pc (.newarray .long) 2 q)
    (k : ∀ a : Nat, (∀ x ∈ X ++ P, x.1 ≠ a) → G κ nL (cs + 1) (ss + N) q lv (.ref a :: st) (X ++ [(a, .inl (g.2.1 1, N, .inr (.inl (fun _ => 0))))]) P) : G κ nL cs ss pc lv (.int n :: st) X P := by
  obtain ⟨hd, rfl⟩ := hd
  intro H locs ls hl hP hD hS
  have hx := id C
  obtain ⟨h1, h2', h3', h4, h5, h6, h7, h8, -⟩ := hx
  refine va_newa (atype := .long) (a0 := (N, .inr (.inl (fun _ => 0)))) (ty := .long) h4 h5 (C.w hw) rfl C.K hP hD hS C.A (fun cA => rfl) hn hN (Nat.le_trans (Nat.mul_le_mul_left N (by decide)) hby) (by rw [h3']; exact hcc) (by rw [h3']; exact hss) hd (fun a cA H1 hK1 hP1 hD1 hS1 => ?_)
  have e1 := (hK1.2 5 (cA, .long) rfl).2
  have e2 := (C.K.2 1 (κ.2.2.1.1.2.1 1, .long) rfl).2
  have e3 : cA = g.2.1 1 := by rw [← C.2.1]; exact Option.some.inj (Eq.trans (Eq.symm e1) e2)
  subst e3
  exact k a (fun x hx => D_apart hD1 x hx _ (List.mem_singleton.mpr rfl)) H1 locs ls hl (P_perm push_perm hP1) (D_perm push_perm hD1) hS1
theorem g_newa_b (C : zC κ l g R cc nL own name ret E) {n : Int32} (N : Nat) (hw : Cond.arrayClass .byte ∈ big) (hn : ¬ n < 0) (hN : n.toNatClampNeg = N) (hby : N * 8 ≤ 536870912) (hcc : cs + 1 ≤ R.cells) (hss : ss + N ≤ R.slots) (hd : dz cc pc (.newarray .byte) 2 q)
    (k : ∀ a : Nat, (∀ x ∈ X ++ P, x.1 ≠ a) → G κ nL (cs + 1) (ss + N) q lv (.ref a :: st) (X ++ [(a, .inl (g.2.1 2, N, .inl (fun _ => 0)))]) P) : G κ nL cs ss pc lv (.int n :: st) X P := by
  obtain ⟨hd, rfl⟩ := hd
  intro H locs ls hl hP hD hS
  have hx := id C
  obtain ⟨h1, h2', h3', h4, h5, h6, h7, h8, -⟩ := hx
  refine va_newa (atype := .byte) (a0 := (N, .inl (fun _ => 0))) (ty := .byte) h4 h5 (C.w hw) rfl C.K hP hD hS C.A (fun cA => rfl) hn hN (Nat.le_trans (Nat.mul_le_mul_left N (by decide)) hby) (by rw [h3']; exact hcc) (by rw [h3']; exact hss) hd (fun a cA H1 hK1 hP1 hD1 hS1 => ?_)
  have e1 := (hK1.2 5 (cA, .byte) rfl).2
  have e2 := (C.K.2 2 (κ.2.2.1.1.2.1 2, .byte) rfl).2
  have e3 : cA = g.2.1 2 := by rw [← C.2.1]; exact Option.some.inj (Eq.trans (Eq.symm e1) e2)
  subst e3
  exact k a (fun x hx => D_apart hD1 x hx _ (List.mem_singleton.mpr rfl)) H1 locs ls hl (P_perm push_perm hP1) (D_perm push_perm hD1) hS1
theorem g_newa_z (C : zC κ l g R cc nL own name ret E) {n : Int32} (N : Nat) (hw : Cond.arrayClass .boolean ∈ big) (hn : ¬ n < 0) (hN : n.toNatClampNeg = N) (hby : N * 8 ≤ 536870912) (hcc : cs + 1 ≤ R.cells) (hss : ss + N ≤ R.slots) (hd : dz cc pc (.newarray .boolean) 2 q)
    (k : ∀ a : Nat, (∀ x ∈ X ++ P, x.1 ≠ a) → G κ nL (cs + 1) (ss + N) q lv (.ref a :: st) (X ++ [(a, .inl (g.2.1 3, N, .inl (fun _ => 0)))]) P) : G κ nL cs ss pc lv (.int n :: st) X P := by
  obtain ⟨hd, rfl⟩ := hd
  intro H locs ls hl hP hD hS
  have hx := id C
  obtain ⟨h1, h2', h3', h4, h5, h6, h7, h8, -⟩ := hx
  refine va_newa (atype := .boolean) (a0 := (N, .inl (fun _ => 0))) (ty := .boolean) h4 h5 (C.w hw) rfl C.K hP hD hS C.A (fun cA => rfl) hn hN (Nat.le_trans (Nat.mul_le_mul_left N (by decide)) hby) (by rw [h3']; exact hcc) (by rw [h3']; exact hss) hd (fun a cA H1 hK1 hP1 hD1 hS1 => ?_)
  have e1 := (hK1.2 5 (cA, .boolean) rfl).2
  have e2 := (C.K.2 3 (κ.2.2.1.1.2.1 3, .boolean) rfl).2
  have e3 : cA = g.2.1 3 := by rw [← C.2.1]; exact Option.some.inj (Eq.trans (Eq.symm e1) e2)
  subst e3
  exact k a (fun x hx => D_apart hD1 x hx _ (List.mem_singleton.mpr rfl)) H1 locs ls hl (P_perm push_perm hP1) (D_perm push_perm hD1) hS1
end GN
/-- a truth as an int -/
def zb (c : Prop) [Decidable c] : Int32 := if c then 1 else 0
theorem zb_t {c : Prop} [Decidable c] (h : c) : zb c = 1 := if_pos h
theorem zb_f {c : Prop} [Decidable c] (h : ¬ c) : zb c = 0 := if_neg h
theorem zb_0 {c : Prop} [Decidable c] : zb c = 0 ↔ ¬ c := by
  unfold zb
  by_cases h : c
  · simp [h]
  · simp [h]
theorem zb_n0 {c : Prop} [Decidable c] : ¬ zb c = 0 ↔ c := by
  unfold zb
  by_cases h : c
  · simp [h]
  · simp [h]
theorem zb_or {c : Prop} [Decidable c] : zb c = 0 ∨ zb c = 1 := by
  by_cases h : c
  · exact Or.inr (zb_t h)
  · exact Or.inl (zb_f h)
theorem zb_cong {c d : Prop} [Decidable c] [Decidable d] (h : c ↔ d) : zb c = zb d := by
  by_cases k : c
  · rw [zb_t k, zb_t (h.mp k)]
  · rw [zb_f k, zb_f (fun z => k (h.mpr z))]
end
section
theorem mo_Dy_init : mok y_Dy_init b_Dy_init 3 (none : Option FieldType) 2 := ⟨kw_277, kw_87, by decide, by decide, by decide +kernel⟩
theorem mi_Dy_init : Cond.instanceMethod y_Dy_init ∈ big := kw_276
theorem mo_Dy_stateOf : mok y_Dy_stateOf b_Dy_stateOf 4 (some FieldType.int) 3 := ⟨kw_709, kw_87, by decide, by decide, by decide +kernel⟩
theorem mv_Dy_stateOf : mov y_Dy_stateOf := ⟨kw_708, kw_34⟩
theorem mo_Dy_daysByState : mok y_Dy_daysByState b_Dy_daysByState 5 (some (FieldType.array FieldType.int)) 3 := ⟨kw_765, kw_87, by decide, by decide, by decide +kernel⟩
theorem mv_Dy_daysByState : mov y_Dy_daysByState := ⟨kw_764, kw_44⟩
theorem mo_Dy_reckon : mok y_Dy_reckon b_Dy_reckon 6 (some FieldType.int) 3 := ⟨kw_713, kw_87, by decide, by decide, by decide +kernel⟩
theorem mv_Dy_reckon : mov y_Dy_reckon := ⟨kw_712, kw_35⟩
theorem mo_Dy_hearFlake : mok y_Dy_hearFlake b_Dy_hearFlake 6 (none : Option FieldType) 3 := ⟨kw_724, kw_87, by decide, by decide, by decide +kernel⟩
theorem mv_Dy_hearFlake : mov y_Dy_hearFlake := ⟨kw_723, kw_37⟩
theorem mo_Dy_hearLine : mok y_Dy_hearLine b_Dy_hearLine 3 (none : Option FieldType) 1 := ⟨kw_733, kw_87, by decide, by decide, by decide +kernel⟩
theorem mv_Dy_hearLine : mov y_Dy_hearLine := ⟨kw_732, kw_39⟩
theorem mo_Dy_joined : mok y_Dy_joined b_Dy_joined 2 (some FieldType.int) 2 := ⟨kw_740, kw_87, by decide, by decide, by decide +kernel⟩
theorem ms_Dy_joined : Cond.static y_Dy_joined ∈ big := kw_739
theorem mo_Dy_narrow : mok y_Dy_narrow b_Dy_narrow 4 (some FieldType.int) 1 := ⟨kw_744, kw_87, by decide, by decide, by decide +kernel⟩
theorem mv_Dy_narrow : mov y_Dy_narrow := ⟨kw_743, kw_41⟩
theorem mo_Dy_menThatAre : mok y_Dy_menThatAre b_Dy_menThatAre 5 (some FieldType.int) 2 := ⟨kw_748, kw_87, by decide, by decide, by decide +kernel⟩
theorem mv_Dy_menThatAre : mov y_Dy_menThatAre := ⟨kw_747, kw_42⟩
theorem mo_Dy_closeOpen : mok y_Dy_closeOpen b_Dy_closeOpen 4 (none : Option FieldType) 2 := ⟨kw_752, kw_87, by decide, by decide, by decide +kernel⟩
theorem mv_Dy_closeOpen : mov y_Dy_closeOpen := ⟨kw_751, kw_43⟩
theorem mo_De_init : mok y_De_init b_De_init 2 (none : Option FieldType) 0 := ⟨kw_328, kw_89, by decide, by decide, by decide +kernel⟩
theorem mi_De_init : Cond.instanceMethod y_De_init ∈ big := kw_327
theorem mo_De_setWorth : mok y_De_setWorth b_De_setWorth 4 (some FieldType.boolean) 3 := ⟨kw_803, kw_89, by decide, by decide, by decide +kernel⟩
theorem mv_De_setWorth : mov y_De_setWorth := ⟨kw_802, kw_48⟩
theorem mo_De_add : mok y_De_add b_De_add 6 (some FieldType.int) 5 := ⟨kw_811, kw_89, by decide, by decide, by decide +kernel⟩
theorem mv_De_add : mov y_De_add := ⟨kw_810, kw_49⟩
theorem mo_De_setPaid : mok y_De_setPaid b_De_setPaid 3 (some FieldType.boolean) 2 := ⟨kw_819, kw_89, by decide, by decide, by decide +kernel⟩
theorem mv_De_setPaid : mov y_De_setPaid := ⟨kw_818, kw_50⟩
theorem mo_De_balancesOn : mok y_De_balancesOn b_De_balancesOn 4 (some (FieldType.array FieldType.int)) 1 := ⟨kw_829, kw_89, by decide, by decide, by decide +kernel⟩
theorem mv_De_balancesOn : mov y_De_balancesOn := ⟨kw_828, kw_51⟩
theorem mo_Fk_init : mok y_Fk_init b_Fk_init 2 (none : Option FieldType) 1 := ⟨kw_475, kw_92, by decide, by decide, by decide +kernel⟩
theorem mi_Fk_init : Cond.instanceMethod y_Fk_init ∈ big := kw_474
theorem mo_Fk_counts : mok y_Fk_counts b_Fk_counts 2 (some FieldType.boolean) 1 := ⟨kw_720, kw_92, by decide, by decide, by decide +kernel⟩
theorem mv_Fk_counts : mov y_Fk_counts := ⟨kw_719, kw_36⟩
theorem mo_Re_init : mok y_Re_init b_Re_init 3 (none : Option FieldType) 2 := ⟨kw_154, kw_80, by decide, by decide, by decide +kernel⟩
theorem mi_Re_init : Cond.instanceMethod y_Re_init ∈ big := kw_153
theorem mo_Re_read : mok y_Re_read b_Re_read 3 (some FieldType.boolean) 1 := ⟨kw_500, kw_80, by decide, by decide, by decide +kernel⟩
theorem mv_Re_read : mov y_Re_read := ⟨kw_499, kw_6⟩
theorem mo_Re_faultOfToken : mok y_Re_faultOfToken b_Re_faultOfToken 2 (some FieldType.int) 1 := ⟨kw_538, kw_80, by decide, by decide, by decide +kernel⟩
theorem mv_Re_faultOfToken : mov y_Re_faultOfToken := ⟨kw_537, kw_14⟩
theorem mo_Re_takeLine : mok y_Re_takeLine b_Re_takeLine 2 (some FieldType.int) 1 := ⟨kw_542, kw_80, by decide, by decide, by decide +kernel⟩
theorem mv_Re_takeLine : mov y_Re_takeLine := ⟨kw_541, kw_15⟩
theorem mo_Re_takeDayNumber : mok y_Re_takeDayNumber b_Re_takeDayNumber 1 (some FieldType.int) 0 := ⟨kw_556, kw_80, by decide, by decide, by decide +kernel⟩
theorem mv_Re_takeDayNumber : mov y_Re_takeDayNumber := ⟨kw_555, kw_18⟩
theorem mo_Re_takeGang : mok y_Re_takeGang b_Re_takeGang 3 (some FieldType.int) 1 := ⟨kw_561, kw_80, by decide, by decide, by decide +kernel⟩
theorem mv_Re_takeGang : mov y_Re_takeGang := ⟨kw_560, kw_19⟩
theorem mo_Re_takeSign : mok y_Re_takeSign b_Re_takeSign 3 (some FieldType.int) 2 := ⟨kw_627, kw_80, by decide, by decide, by decide +kernel⟩
theorem mv_Re_takeSign : mov y_Re_takeSign := ⟨kw_626, kw_23⟩
theorem mo_Re_takeEntry : mok y_Re_takeEntry b_Re_takeEntry 1 (some FieldType.int) 0 := ⟨kw_635, kw_80, by decide, by decide, by decide +kernel⟩
theorem mv_Re_takeEntry : mov y_Re_takeEntry := ⟨kw_634, kw_25⟩
theorem mo_Re_takeName : mok y_Re_takeName b_Re_takeName 1 (some FieldType.int) 0 := ⟨kw_641, kw_80, by decide, by decide, by decide +kernel⟩
theorem mv_Re_takeName : mov y_Re_takeName := ⟨kw_640, kw_26⟩
theorem mo_Re_takeToldOfName : mok y_Re_takeToldOfName b_Re_takeToldOfName 2 (some FieldType.int) 0 := ⟨kw_653, kw_80, by decide, by decide, by decide +kernel⟩
theorem mv_Re_takeToldOfName : mov y_Re_takeToldOfName := ⟨kw_652, kw_29⟩
theorem mo_Re_takeWicksNumber : mok y_Re_takeWicksNumber b_Re_takeWicksNumber 1 (some FieldType.int) 0 := ⟨kw_658, kw_80, by decide, by decide, by decide +kernel⟩
theorem mv_Re_takeWicksNumber : mov y_Re_takeWicksNumber := ⟨kw_657, kw_30⟩
theorem mo_Re_expect : mok y_Re_expect b_Re_expect 2 (some FieldType.int) 1 := ⟨kw_552, kw_80, by decide, by decide, by decide +kernel⟩
theorem mv_Re_expect : mov y_Re_expect := ⟨kw_551, kw_17⟩
theorem mo_Fs_init : mok y_Fs_init b_Fs_init 1 (none : Option FieldType) 0 := ⟨kw_240, kw_83, by decide, by decide, by decide +kernel⟩
theorem mi_Fs_init : Cond.instanceMethod y_Fs_init ∈ big := kw_239
theorem mo_Fs_count : mok y_Fs_count b_Fs_count 1 (some FieldType.int) 0 := ⟨kw_859, kw_83, by decide, by decide, by decide +kernel⟩
theorem mv_Fs_count : mov y_Fs_count := ⟨kw_858, kw_55⟩
theorem mo_Fs_isFull : mok y_Fs_isFull b_Fs_isFull 1 (some FieldType.boolean) 0 := ⟨kw_466, kw_83, by decide, by decide, by decide +kernel⟩
theorem mv_Fs_isFull : mov y_Fs_isFull := ⟨kw_465, kw_5⟩
theorem mo_Fs_keep : mok y_Fs_keep b_Fs_keep 2 (some FieldType.int) 1 := ⟨kw_662, kw_83, by decide, by decide, by decide +kernel⟩
theorem mv_Fs_keep : mov y_Fs_keep := ⟨kw_661, kw_31⟩
theorem mo_Fs_giveUpOn : mok y_Fs_giveUpOn b_Fs_giveUpOn 3 (some FieldType.boolean) 2 := ⟨kw_675, kw_83, by decide, by decide, by decide +kernel⟩
theorem mv_Fs_giveUpOn : mov y_Fs_giveUpOn := ⟨kw_674, kw_32⟩
theorem mo_Fs_linesOf : mok y_Fs_linesOf b_Fs_linesOf 2 (some FieldType.int) 1 := ⟨kw_863, kw_83, by decide, by decide, by decide +kernel⟩
theorem mv_Fs_linesOf : mov y_Fs_linesOf := ⟨kw_862, kw_56⟩
theorem mo_Li_init : mok y_Li_init b_Li_init 3 (none : Option FieldType) 2 := ⟨kw_160, kw_81, by decide, by decide, by decide +kernel⟩
theorem mi_Li_init : Cond.instanceMethod y_Li_init ∈ big := kw_159
theorem mo_Li_isOf : mok y_Li_isOf b_Li_isOf 3 (some FieldType.boolean) 2 := ⟨kw_729, kw_81, by decide, by decide, by decide +kernel⟩
theorem mv_Li_isOf : mov y_Li_isOf := ⟨kw_728, kw_38⟩
theorem mo_Li_names : mok y_Li_names b_Li_names 2 (some FieldType.boolean) 1 := ⟨kw_649, kw_81, by decide, by decide, by decide +kernel⟩
theorem mv_Li_names : mov y_Li_names := ⟨kw_648, kw_28⟩
theorem mo_Li_tells : mok y_Li_tells b_Li_tells 2 (some FieldType.int) 1 := ⟨kw_737, kw_81, by decide, by decide, by decide +kernel⟩
theorem mv_Li_tells : mov y_Li_tells := ⟨kw_736, kw_40⟩
theorem mo_Me_init : mok y_Me_init b_Me_init 1 (none : Option FieldType) 0 := ⟨kw_111, kw_78, by decide, by decide, by decide +kernel⟩
theorem mi_Me_init : Cond.instanceMethod y_Me_init ∈ big := kw_110
theorem mo_Me_has : mok y_Me_has b_Me_has 2 (some FieldType.boolean) 1 := ⟨kw_704, kw_78, by decide, by decide, by decide +kernel⟩
theorem mv_Me_has : mov y_Me_has := ⟨kw_703, kw_33⟩
theorem mo_Me_add : mok y_Me_add b_Me_add 6 (some FieldType.int) 3 := ⟨kw_410, kw_78, by decide, by decide, by decide +kernel⟩
theorem mv_Me_add : mov y_Me_add := ⟨kw_409, kw_0⟩
theorem mo_Me_find : mok y_Me_find b_Me_find 4 (some FieldType.int) 1 := ⟨kw_438, kw_78, by decide, by decide, by decide +kernel⟩
theorem mv_Me_find : mov y_Me_find := ⟨kw_437, kw_1⟩
theorem mo_Me_findInGang : mok y_Me_findInGang b_Me_findInGang 5 (some FieldType.int) 2 := ⟨kw_645, kw_78, by decide, by decide, by decide +kernel⟩
theorem mv_Me_findInGang : mov y_Me_findInGang := ⟨kw_644, kw_27⟩
theorem mo_Ra_init : mok y_Ra_init b_Ra_init 2 (none : Option FieldType) 1 := ⟨kw_302, kw_88, by decide, by decide, by decide +kernel⟩
theorem mi_Ra_init : Cond.instanceMethod y_Ra_init ∈ big := kw_301
theorem mo_Ra_setSacks : mok y_Ra_setSacks b_Ra_setSacks 3 (some FieldType.boolean) 2 := ⟨kw_778, kw_88, by decide, by decide, by decide +kernel⟩
theorem mv_Ra_setSacks : mov y_Ra_setSacks := ⟨kw_777, kw_45⟩
theorem mo_Ra_take : mok y_Ra_take b_Ra_take 4 (some FieldType.int) 3 := ⟨kw_786, kw_88, by decide, by decide, by decide +kernel⟩
theorem mv_Ra_take : mov y_Ra_take := ⟨kw_785, kw_46⟩
theorem mo_Ra_owedTo : mok y_Ra_owedTo b_Ra_owedTo 6 (some FieldType.int) 2 := ⟨kw_795, kw_88, by decide, by decide, by decide +kernel⟩
theorem mv_Ra_owedTo : mov y_Ra_owedTo := ⟨kw_794, kw_47⟩
theorem mo_Se_init : mok y_Se_init b_Se_init 1 (none : Option FieldType) 0 := ⟨kw_363, kw_90, by decide, by decide, by decide +kernel⟩
theorem mi_Se_init : Cond.instanceMethod y_Se_init ∈ big := kw_362
theorem mo_Se_payments : mok y_Se_payments b_Se_payments 4 (some FieldType.int) 1 := ⟨kw_837, kw_90, by decide, by decide, by decide +kernel⟩
theorem mv_Se_payments : mov y_Se_payments := ⟨kw_836, kw_52⟩
theorem mo_Se_mostSetsAmong : mok y_Se_mostSetsAmong b_Se_mostSetsAmong 4 (some FieldType.int) 1 := ⟨kw_841, kw_90, by decide, by decide, by decide +kernel⟩
theorem mv_Se_mostSetsAmong : mov y_Se_mostSetsAmong := ⟨kw_840, kw_53⟩
theorem mo_Se_mostSetsWithin : mok y_Se_mostSetsWithin b_Se_mostSetsWithin 7 (some FieldType.int) 2 := ⟨kw_845, kw_90, by decide, by decide, by decide +kernel⟩
theorem mv_Se_mostSetsWithin : mov y_Se_mostSetsWithin := ⟨kw_844, kw_54⟩
theorem mo_Ta_init : mok y_Ta_init b_Ta_init 1 (none : Option FieldType) 0 := ⟨kw_139, kw_79, by decide, by decide, by decide +kernel⟩
theorem mi_Ta_init : Cond.instanceMethod y_Ta_init ∈ big := kw_138
theorem mo_Ta_hasRoomFor : mok y_Ta_hasRoomFor b_Ta_hasRoomFor 2 (some FieldType.boolean) 1 := ⟨kw_446, kw_79, by decide, by decide, by decide +kernel⟩
theorem mv_Ta_hasRoomFor : mov y_Ta_hasRoomFor := ⟨kw_445, kw_2⟩
theorem mo_Ta_append : mok y_Ta_append b_Ta_append 3 (none : Option FieldType) 1 := ⟨kw_450, kw_79, by decide, by decide, by decide +kernel⟩
theorem mv_Ta_append : mov y_Ta_append := ⟨kw_449, kw_3⟩
theorem mo_Ta_cut : mok y_Ta_cut b_Ta_cut 2 (some FieldType.boolean) 1 := ⟨kw_458, kw_79, by decide, by decide, by decide +kernel⟩
theorem mv_Ta_cut : mov y_Ta_cut := ⟨kw_457, kw_4⟩
theorem mo_Ta_at : mok y_Ta_at b_Ta_at 2 (some FieldType.int) 1 := ⟨kw_516, kw_79, by decide, by decide, by decide +kernel⟩
theorem mv_Ta_at : mov y_Ta_at := ⟨kw_515, kw_10⟩
theorem mo_To_init : mok y_To_init b_To_init 2 (none : Option FieldType) 1 := ⟨kw_188, kw_82, by decide, by decide, by decide +kernel⟩
theorem mi_To_init : Cond.instanceMethod y_To_init ∈ big := kw_187
theorem mo_To_restart : mok y_To_restart b_To_restart 1 (none : Option FieldType) 0 := ⟨kw_504, kw_82, by decide, by decide, by decide +kernel⟩
theorem mv_To_restart : mov y_To_restart := ⟨kw_503, kw_7⟩
theorem mo_To_advance : mok y_To_advance b_To_advance 2 (none : Option FieldType) 0 := ⟨kw_508, kw_82, by decide, by decide, by decide +kernel⟩
theorem mv_To_advance : mov y_To_advance := ⟨kw_507, kw_8⟩
theorem mo_To_skipBlanks : mok y_To_skipBlanks b_To_skipBlanks 1 (none : Option FieldType) 0 := ⟨kw_512, kw_82, by decide, by decide, by decide +kernel⟩
theorem mv_To_skipBlanks : mov y_To_skipBlanks := ⟨kw_511, kw_9⟩
theorem mo_To_readWord : mok y_To_readWord b_To_readWord 1 (none : Option FieldType) 0 := ⟨kw_522, kw_82, by decide, by decide, by decide +kernel⟩
theorem mv_To_readWord : mov y_To_readWord := ⟨kw_521, kw_11⟩
theorem mo_To_readNumber : mok y_To_readNumber b_To_readNumber 2 (none : Option FieldType) 0 := ⟨kw_529, kw_82, by decide, by decide, by decide +kernel⟩
theorem mv_To_readNumber : mov y_To_readNumber := ⟨kw_528, kw_12⟩
theorem mo_To_readSign : mok y_To_readSign b_To_readSign 2 (none : Option FieldType) 1 := ⟨kw_534, kw_82, by decide, by decide, by decide +kernel⟩
theorem mv_To_readSign : mov y_To_readSign := ⟨kw_533, kw_13⟩
theorem mo_To_isSign : mok y_To_isSign b_To_isSign 2 (some FieldType.boolean) 1 := ⟨kw_631, kw_82, by decide, by decide, by decide +kernel⟩
theorem mv_To_isSign : mov y_To_isSign := ⟨kw_630, kw_24⟩
theorem mo_To_isWord : mok y_To_isWord b_To_isWord 3 (some FieldType.boolean) 1 := ⟨kw_547, kw_82, by decide, by decide, by decide +kernel⟩
theorem mv_To_isWord : mov y_To_isWord := ⟨kw_546, kw_16⟩
theorem mo_TL_init : mok y_TL_init b_TL_init 1 (none : Option FieldType) 0 := ⟨kw_103, kw_77, by decide, by decide, by decide +kernel⟩
theorem mi_TL_init : Cond.instanceMethod y_TL_init ∈ big := kw_102
theorem mo_TL_man : mok y_TL_man b_TL_man 5 (some FieldType.int) 3 := ⟨kw_403, kw_77, by decide, by decide, by decide +kernel⟩
theorem mv_TL_man : mov y_TL_man := ⟨kw_401, kw_402⟩
theorem mo_TL_feed : mok y_TL_feed b_TL_feed 6 (some FieldType.int) 5 := ⟨kw_442, kw_77, by decide, by decide, by decide +kernel⟩
theorem mv_TL_feed : mov y_TL_feed := ⟨kw_440, kw_441⟩
theorem mo_TL_end : mok y_TL_end b_TL_end 2 (some FieldType.int) 1 := ⟨kw_454, kw_77, by decide, by decide, by decide +kernel⟩
theorem mv_TL_end : mov y_TL_end := ⟨kw_452, kw_453⟩
theorem mo_TL_flake : mok y_TL_flake b_TL_flake 3 (some FieldType.int) 0 := ⟨kw_462, kw_77, by decide, by decide, by decide +kernel⟩
theorem mv_TL_flake : mov y_TL_flake := ⟨kw_460, kw_461⟩
theorem mo_TL_fault : mok y_TL_fault b_TL_fault 2 (some FieldType.int) 1 := ⟨kw_667, kw_77, by decide, by decide, by decide +kernel⟩
theorem mv_TL_fault : mov y_TL_fault := ⟨kw_665, kw_666⟩
theorem mo_TL_giveUp : mok y_TL_giveUp b_TL_giveUp 2 (some FieldType.boolean) 1 := ⟨kw_671, kw_77, by decide, by decide, by decide +kernel⟩
theorem mv_TL_giveUp : mov y_TL_giveUp := ⟨kw_669, kw_670⟩
theorem mo_TL_later : mok y_TL_later b_TL_later 2 (some FieldType.int) 1 := ⟨kw_695, kw_77, by decide, by decide, by decide +kernel⟩
theorem mv_TL_later : mov y_TL_later := ⟨kw_693, kw_694⟩
theorem mo_TL_day : mok y_TL_day b_TL_day 4 (some FieldType.int) 3 := ⟨kw_700, kw_77, by decide, by decide, by decide +kernel⟩
theorem mv_TL_day : mov y_TL_day := ⟨kw_698, kw_699⟩
theorem mo_TL_wicks : mok y_TL_wicks b_TL_wicks 4 (some FieldType.int) 3 := ⟨kw_756, kw_77, by decide, by decide, by decide +kernel⟩
theorem mv_TL_wicks : mov y_TL_wicks := ⟨kw_754, kw_755⟩
theorem mo_TL_span : mok y_TL_span b_TL_span 6 (some FieldType.int) 4 := ⟨kw_761, kw_77, by decide, by decide, by decide +kernel⟩
theorem mv_TL_span : mov y_TL_span := ⟨kw_759, kw_760⟩
theorem mo_TL_missed : mok y_TL_missed b_TL_missed 5 (some FieldType.int) 4 := ⟨kw_770, kw_77, by decide, by decide, by decide +kernel⟩
theorem mv_TL_missed : mov y_TL_missed := ⟨kw_768, kw_769⟩
theorem mo_TL_ration : mok y_TL_ration b_TL_ration 3 (some FieldType.boolean) 2 := ⟨kw_774, kw_77, by decide, by decide, by decide +kernel⟩
theorem mv_TL_ration : mov y_TL_ration := ⟨kw_772, kw_773⟩
theorem mo_TL_come : mok y_TL_come b_TL_come 4 (some FieldType.int) 3 := ⟨kw_782, kw_77, by decide, by decide, by decide +kernel⟩
theorem mv_TL_come : mov y_TL_come := ⟨kw_780, kw_781⟩
theorem mo_TL_arrears : mok y_TL_arrears b_TL_arrears 3 (some FieldType.int) 2 := ⟨kw_790, kw_77, by decide, by decide, by decide +kernel⟩
theorem mv_TL_arrears : mov y_TL_arrears := ⟨kw_788, kw_789⟩
theorem mo_TL_worth : mok y_TL_worth b_TL_worth 4 (some FieldType.boolean) 3 := ⟨kw_799, kw_77, by decide, by decide, by decide +kernel⟩
theorem mv_TL_worth : mov y_TL_worth := ⟨kw_797, kw_798⟩
theorem mo_TL_debt : mok y_TL_debt b_TL_debt 6 (some FieldType.int) 5 := ⟨kw_807, kw_77, by decide, by decide, by decide +kernel⟩
theorem mv_TL_debt : mov y_TL_debt := ⟨kw_805, kw_806⟩
theorem mo_TL_pay : mok y_TL_pay b_TL_pay 3 (some FieldType.boolean) 2 := ⟨kw_815, kw_77, by decide, by decide, by decide +kernel⟩
theorem mv_TL_pay : mov y_TL_pay := ⟨kw_813, kw_814⟩
theorem mo_TL_balance : mok y_TL_balance b_TL_balance 3 (some FieldType.int) 2 := ⟨kw_824, kw_77, by decide, by decide, by decide +kernel⟩
theorem mv_TL_balance : mov y_TL_balance := ⟨kw_822, kw_823⟩
theorem mo_TL_fewest : mok y_TL_fewest b_TL_fewest 2 (some FieldType.int) 1 := ⟨kw_833, kw_77, by decide, by decide, by decide +kernel⟩
theorem mv_TL_fewest : mov y_TL_fewest := ⟨kw_831, kw_832⟩
theorem mo_TL_of : mok y_TL_of b_TL_of 3 (some FieldType.int) 2 := ⟨kw_850, kw_77, by decide, by decide, by decide +kernel⟩
theorem mv_TL_of : mov y_TL_of := ⟨kw_848, kw_849⟩
theorem mo_TL_about : mok y_TL_about b_TL_about 2 (some FieldType.int) 1 := ⟨kw_855, kw_77, by decide, by decide, by decide +kernel⟩
theorem mv_TL_about : mov y_TL_about := ⟨kw_853, kw_854⟩
theorem mo_TL_isBelow : mok y_TL_isBelow b_TL_isBelow 2 (some FieldType.boolean) 2 := ⟨kw_406, kw_77, by decide, by decide, by decide +kernel⟩
theorem ms_TL_isBelow : Cond.static y_TL_isBelow ∈ big := kw_405
theorem mo_TL_isLetter : mok y_TL_isLetter b_TL_isLetter 1 (some FieldType.boolean) 1 := ⟨kw_416, kw_77, by decide, by decide, by decide +kernel⟩
theorem ms_TL_isLetter : Cond.static y_TL_isLetter ∈ big := kw_415
theorem mo_TL_isDigit : mok y_TL_isDigit b_TL_isDigit 1 (some FieldType.boolean) 1 := ⟨kw_525, kw_77, by decide, by decide, by decide +kernel⟩
theorem ms_TL_isDigit : Cond.static y_TL_isDigit ∈ big := kw_524
theorem mo_TL_lettersOf : mok y_TL_lettersOf b_TL_lettersOf 5 (some FieldType.int) 1 := ⟨kw_413, kw_77, by decide, by decide, by decide +kernel⟩
theorem ms_TL_lettersOf : Cond.static y_TL_lettersOf ∈ big := kw_412
theorem mo_TL_reasonOf : mok y_TL_reasonOf b_TL_reasonOf 2 (some FieldType.int) 1 := ⟨kw_429, kw_77, by decide, by decide, by decide +kernel⟩
theorem ms_TL_reasonOf : Cond.static y_TL_reasonOf ∈ big := kw_428
theorem mo_TL_sideOf : mok y_TL_sideOf b_TL_sideOf 2 (some FieldType.int) 1 := ⟨kw_424, kw_77, by decide, by decide, by decide +kernel⟩
theorem ms_TL_sideOf : Cond.static y_TL_sideOf ∈ big := kw_423
theorem mo_TL_isFree : mok y_TL_isFree b_TL_isFree 2 (some FieldType.boolean) 1 := ⟨kw_419, kw_77, by decide, by decide, by decide +kernel⟩
theorem ms_TL_isFree : Cond.static y_TL_isFree ∈ big := kw_418
theorem mo_Mo_isMan : mok y_Mo_isMan b_Mo_isMan 2 (some FieldType.boolean) 1 := ⟨kw_905, kw_91, by decide, by decide, by decide +kernel⟩
theorem mv_Mo_isMan : mov y_Mo_isMan := ⟨kw_904, kw_58⟩
theorem mo_Mo_isLetter : mok y_Mo_isLetter b_Mo_isLetter 1 (some FieldType.boolean) 1 := ⟨kw_877, kw_91, by decide, by decide, by decide +kernel⟩
theorem ms_Mo_isLetter : Cond.static y_Mo_isLetter ∈ big := kw_876
theorem mo_Mo_isDigit : mok y_Mo_isDigit b_Mo_isDigit 1 (some FieldType.boolean) 1 := ⟨kw_920, kw_91, by decide, by decide, by decide +kernel⟩
theorem ms_Mo_isDigit : Cond.static y_Mo_isDigit ∈ big := kw_919
theorem mo_Mo_reasonOf : mok y_Mo_reasonOf b_Mo_reasonOf 2 (some FieldType.int) 1 := ⟨kw_883, kw_91, by decide, by decide, by decide +kernel⟩
theorem ms_Mo_reasonOf : Cond.static y_Mo_reasonOf ∈ big := kw_882
theorem mo_Mo_isKept : mok y_Mo_isKept b_Mo_isKept 2 (some FieldType.boolean) 1 := ⟨kw_880, kw_91, by decide, by decide, by decide +kernel⟩
theorem ms_Mo_isKept : Cond.static y_Mo_isKept ∈ big := kw_879
theorem mo_Mo_lettersOf : mok y_Mo_lettersOf b_Mo_lettersOf 3 (some FieldType.int) 1 := ⟨kw_873, kw_91, by decide, by decide, by decide +kernel⟩
theorem ms_Mo_lettersOf : Cond.static y_Mo_lettersOf ∈ big := kw_872
theorem mo_Mo_isName : mok y_Mo_isName b_Mo_isName 3 (some FieldType.boolean) 1 := ⟨kw_870, kw_91, by decide, by decide, by decide +kernel⟩
theorem ms_Mo_isName : Cond.static y_Mo_isName ∈ big := kw_869
theorem mo_Mo_manOf : mok y_Mo_manOf b_Mo_manOf 4 (some FieldType.int) 1 := ⟨kw_897, kw_91, by decide, by decide, by decide +kernel⟩
theorem mv_Mo_manOf : mov y_Mo_manOf := ⟨kw_895, kw_57⟩
theorem mo_Mo_man : mok y_Mo_man b_Mo_man 5 (some FieldType.int) 3 := ⟨kw_867, kw_91, by decide, by decide, by decide +kernel⟩
theorem mv_Mo_man : mov y_Mo_man := ⟨kw_865, kw_866⟩
theorem mo_Mo_of : mok y_Mo_of b_Mo_of 3 (some FieldType.int) 2 := ⟨kw_901, kw_91, by decide, by decide, by decide +kernel⟩
theorem mv_Mo_of : mov y_Mo_of := ⟨kw_899, kw_900⟩
theorem mo_Mo_sign : mok y_Mo_sign b_Mo_sign 2 (some FieldType.int) 1 := ⟨kw_917, kw_91, by decide, by decide, by decide +kernel⟩
theorem mv_Mo_sign : mov y_Mo_sign := ⟨kw_916, kw_60⟩
theorem mo_Mo_fails : mok y_Mo_fails b_Mo_fails 3 (none : Option FieldType) 2 := ⟨kw_940, kw_91, by decide, by decide, by decide +kernel⟩
theorem mv_Mo_fails : mov y_Mo_fails := ⟨kw_939, kw_65⟩
theorem mo_Mo_isGood : mok y_Mo_isGood b_Mo_isGood 1 (some FieldType.boolean) 0 := ⟨kw_924, kw_91, by decide, by decide, by decide +kernel⟩
theorem mv_Mo_isGood : mov y_Mo_isGood := ⟨kw_923, kw_61⟩
theorem mo_Mo_next : mok y_Mo_next b_Mo_next 3 (none : Option FieldType) 0 := ⟨kw_913, kw_91, by decide, by decide, by decide +kernel⟩
theorem mv_Mo_next : mov y_Mo_next := ⟨kw_912, kw_59⟩
theorem mo_Mo_is : mok y_Mo_is b_Mo_is 2 (some FieldType.boolean) 1 := ⟨kw_948, kw_91, by decide, by decide, by decide +kernel⟩
theorem mv_Mo_is : mov y_Mo_is := ⟨kw_947, kw_67⟩
theorem mo_Mo_isWord : mok y_Mo_isWord b_Mo_isWord 3 (some FieldType.boolean) 1 := ⟨kw_932, kw_91, by decide, by decide, by decide +kernel⟩
theorem mv_Mo_isWord : mov y_Mo_isWord := ⟨kw_931, kw_63⟩
theorem mo_Mo_wrong : mok y_Mo_wrong b_Mo_wrong 1 (none : Option FieldType) 0 := ⟨kw_936, kw_91, by decide, by decide, by decide +kernel⟩
theorem mv_Mo_wrong : mov y_Mo_wrong := ⟨kw_935, kw_64⟩
theorem mo_Mo_must : mok y_Mo_must b_Mo_must 2 (none : Option FieldType) 1 := ⟨kw_944, kw_91, by decide, by decide, by decide +kernel⟩
theorem mv_Mo_must : mov y_Mo_must := ⟨kw_943, kw_66⟩
theorem mo_Mo_flake : mok y_Mo_flake b_Mo_flake 2 (some FieldType.int) 0 := ⟨kw_909, kw_91, by decide, by decide, by decide +kernel⟩
theorem mv_Mo_flake : mov y_Mo_flake := ⟨kw_907, kw_908⟩
theorem mo_Mo_readLine : mok y_Mo_readLine b_Mo_readLine 3 (none : Option FieldType) 0 := ⟨kw_928, kw_91, by decide, by decide, by decide +kernel⟩
theorem mv_Mo_readLine : mov y_Mo_readLine := ⟨kw_927, kw_62⟩
theorem mo_Mo_readEntry : mok y_Mo_readEntry b_Mo_readEntry 4 (none : Option FieldType) 1 := ⟨kw_952, kw_91, by decide, by decide, by decide +kernel⟩
theorem mv_Mo_readEntry : mov y_Mo_readEntry := ⟨kw_951, kw_68⟩
theorem mo_Mo_readWicks : mok y_Mo_readWicks b_Mo_readWicks 2 (none : Option FieldType) 1 := ⟨kw_956, kw_91, by decide, by decide, by decide +kernel⟩
theorem mv_Mo_readWicks : mov y_Mo_readWicks := ⟨kw_955, kw_69⟩
theorem mo_Mo_fault : mok y_Mo_fault b_Mo_fault 2 (some FieldType.int) 1 := ⟨kw_960, kw_91, by decide, by decide, by decide +kernel⟩
theorem mv_Mo_fault : mov y_Mo_fault := ⟨kw_958, kw_959⟩
theorem mo_Mo_giveUp : mok y_Mo_giveUp b_Mo_giveUp 2 (some FieldType.boolean) 1 := ⟨kw_964, kw_91, by decide, by decide, by decide +kernel⟩
theorem mv_Mo_giveUp : mov y_Mo_giveUp := ⟨kw_962, kw_963⟩
theorem mo_Mo_later : mok y_Mo_later b_Mo_later 2 (some FieldType.int) 1 := ⟨kw_968, kw_91, by decide, by decide, by decide +kernel⟩
theorem mv_Mo_later : mov y_Mo_later := ⟨kw_966, kw_967⟩
theorem mo_Mo_counts : mok y_Mo_counts b_Mo_counts 3 (some FieldType.boolean) 2 := ⟨kw_988, kw_91, by decide, by decide, by decide +kernel⟩
theorem mv_Mo_counts : mov y_Mo_counts := ⟨kw_987, kw_72⟩
theorem mo_Mo_saysOf : mok y_Mo_saysOf b_Mo_saysOf 4 (some FieldType.int) 2 := ⟨kw_992, kw_91, by decide, by decide, by decide +kernel⟩
theorem mv_Mo_saysOf : mov y_Mo_saysOf := ⟨kw_991, kw_73⟩
theorem mo_Mo_tellDay : mok y_Mo_tellDay b_Mo_tellDay 9 (none : Option FieldType) 3 := ⟨kw_984, kw_91, by decide, by decide, by decide +kernel⟩
theorem mv_Mo_tellDay : mov y_Mo_tellDay := ⟨kw_983, kw_71⟩
theorem mo_Mo_joined : mok y_Mo_joined b_Mo_joined 2 (some FieldType.int) 2 := ⟨kw_995, kw_91, by decide, by decide, by decide +kernel⟩
theorem ms_Mo_joined : Cond.static y_Mo_joined ∈ big := kw_994
theorem mo_Mo_burn : mok y_Mo_burn b_Mo_burn 6 (some FieldType.int) 2 := ⟨kw_999, kw_91, by decide, by decide, by decide +kernel⟩
theorem mv_Mo_burn : mov y_Mo_burn := ⟨kw_998, kw_74⟩
theorem mo_Mo_isDay : mok y_Mo_isDay b_Mo_isDay 1 (some FieldType.boolean) 1 := ⟨kw_976, kw_91, by decide, by decide, by decide +kernel⟩
theorem ms_Mo_isDay : Cond.static y_Mo_isDay ∈ big := kw_975
theorem mo_Mo_dayOf : mok y_Mo_dayOf b_Mo_dayOf 4 (some FieldType.int) 3 := ⟨kw_980, kw_91, by decide, by decide, by decide +kernel⟩
theorem mv_Mo_dayOf : mov y_Mo_dayOf := ⟨kw_979, kw_70⟩
theorem mo_Mo_day : mok y_Mo_day b_Mo_day 4 (some FieldType.int) 3 := ⟨kw_973, kw_91, by decide, by decide, by decide +kernel⟩
theorem mv_Mo_day : mov y_Mo_day := ⟨kw_971, kw_972⟩
theorem mo_Mo_wicks : mok y_Mo_wicks b_Mo_wicks 4 (some FieldType.int) 3 := ⟨kw_1003, kw_91, by decide, by decide, by decide +kernel⟩
theorem mv_Mo_wicks : mov y_Mo_wicks := ⟨kw_1001, kw_1002⟩
theorem mo_Mo_isMonth : mok y_Mo_isMonth b_Mo_isMonth 1 (some FieldType.boolean) 1 := ⟨kw_1010, kw_91, by decide, by decide, by decide +kernel⟩
theorem ms_Mo_isMonth : Cond.static y_Mo_isMonth ∈ big := kw_1009
theorem mo_Mo_span : mok y_Mo_span b_Mo_span 8 (some FieldType.int) 4 := ⟨kw_1007, kw_91, by decide, by decide, by decide +kernel⟩
theorem mv_Mo_span : mov y_Mo_span := ⟨kw_1005, kw_1006⟩
theorem mo_Mo_missed : mok y_Mo_missed b_Mo_missed 7 (some FieldType.int) 4 := ⟨kw_1014, kw_91, by decide, by decide, by decide +kernel⟩
theorem mv_Mo_missed : mov y_Mo_missed := ⟨kw_1012, kw_1013⟩
theorem mo_Mo_init : mok y_Mo_init b_Mo_init 2 (none : Option FieldType) 0 := ⟨kw_1018, kw_91, by decide, by decide, by decide +kernel⟩
theorem mi_Mo_init : Cond.instanceMethod y_Mo_init ∈ big := kw_1017
theorem mo_Mo_ration : mok y_Mo_ration b_Mo_ration 3 (some FieldType.boolean) 2 := ⟨kw_1152, kw_91, by decide, by decide, by decide +kernel⟩
theorem mv_Mo_ration : mov y_Mo_ration := ⟨kw_1150, kw_1151⟩
theorem mo_Mo_come : mok y_Mo_come b_Mo_come 4 (some FieldType.int) 3 := ⟨kw_1156, kw_91, by decide, by decide, by decide +kernel⟩
theorem mv_Mo_come : mov y_Mo_come := ⟨kw_1154, kw_1155⟩
theorem mo_Mo_arrears : mok y_Mo_arrears b_Mo_arrears 5 (some FieldType.int) 2 := ⟨kw_1160, kw_91, by decide, by decide, by decide +kernel⟩
theorem mv_Mo_arrears : mov y_Mo_arrears := ⟨kw_1158, kw_1159⟩
theorem mo_Mo_worth : mok y_Mo_worth b_Mo_worth 4 (some FieldType.boolean) 3 := ⟨kw_1165, kw_91, by decide, by decide, by decide +kernel⟩
theorem mv_Mo_worth : mov y_Mo_worth := ⟨kw_1163, kw_1164⟩
theorem mo_Mo_debt : mok y_Mo_debt b_Mo_debt 6 (some FieldType.int) 5 := ⟨kw_1169, kw_91, by decide, by decide, by decide +kernel⟩
theorem mv_Mo_debt : mov y_Mo_debt := ⟨kw_1167, kw_1168⟩
theorem mo_Mo_pay : mok y_Mo_pay b_Mo_pay 3 (some FieldType.boolean) 2 := ⟨kw_1173, kw_91, by decide, by decide, by decide +kernel⟩
theorem mv_Mo_pay : mov y_Mo_pay := ⟨kw_1171, kw_1172⟩
theorem mo_Mo_balanceOf : mok y_Mo_balanceOf b_Mo_balanceOf 6 (some FieldType.int) 2 := ⟨kw_1181, kw_91, by decide, by decide, by decide +kernel⟩
theorem mv_Mo_balanceOf : mov y_Mo_balanceOf := ⟨kw_1180, kw_75⟩
theorem mo_Mo_balance : mok y_Mo_balance b_Mo_balance 3 (some FieldType.int) 2 := ⟨kw_1177, kw_91, by decide, by decide, by decide +kernel⟩
theorem mv_Mo_balance : mov y_Mo_balance := ⟨kw_1175, kw_1176⟩
theorem mo_Mo_fewest : mok y_Mo_fewest b_Mo_fewest 6 (some FieldType.int) 1 := ⟨kw_1186, kw_91, by decide, by decide, by decide +kernel⟩
theorem mv_Mo_fewest : mov y_Mo_fewest := ⟨kw_1184, kw_1185⟩
theorem mo_Mo_about : mok y_Mo_about b_Mo_about 2 (some FieldType.int) 1 := ⟨kw_1190, kw_91, by decide, by decide, by decide +kernel⟩
theorem mv_Mo_about : mov y_Mo_about := ⟨kw_1188, kw_1189⟩
theorem mo_Mo_feed : mok y_Mo_feed b_Mo_feed 8 (some FieldType.int) 5 := ⟨kw_1194, kw_91, by decide, by decide, by decide +kernel⟩
theorem mv_Mo_feed : mov y_Mo_feed := ⟨kw_1192, kw_1193⟩
theorem mo_Mo_end : mok y_Mo_end b_Mo_end 2 (some FieldType.int) 1 := ⟨kw_1198, kw_91, by decide, by decide, by decide +kernel⟩
theorem mv_Mo_end : mov y_Mo_end := ⟨kw_1196, kw_1197⟩
theorem mo_AbC_init : mok y_AbC_init b_AbC_init 1 (none : Option FieldType) 0 := ⟨kw_252, kw_84, by decide, by decide, by decide +kernel⟩
theorem mi_AbC_init : Cond.instanceMethod y_AbC_init ∈ big := kw_251
theorem mo_AbL_init : mok y_AbL_init b_AbL_init 1 (none : Option FieldType) 0 := ⟨kw_249, kw_85, by decide, by decide, by decide +kernel⟩
theorem mi_AbL_init : Cond.instanceMethod y_AbL_init ∈ big := kw_248
theorem mo_AL_init : mok y_AL_init b_AL_init 1 (none : Option FieldType) 0 := ⟨kw_246, kw_86, by decide, by decide, by decide +kernel⟩
theorem mi_AL_init : Cond.instanceMethod y_AL_init ∈ big := kw_245
theorem mo_AL_grow1 : mok y_AL_grow1 b_AL_grow1 4 (some (FieldType.array (FieldType.object "java/lang/Object"))) 1 := ⟨kw_578, kw_86, by decide, by decide, by decide +kernel⟩
theorem mv_AL_grow1 : mov y_AL_grow1 := ⟨kw_577, kw_22⟩
theorem mo_AL_grow0 : mok y_AL_grow0 b_AL_grow0 1 (some (FieldType.array (FieldType.object "java/lang/Object"))) 0 := ⟨kw_574, kw_86, by decide, by decide, by decide +kernel⟩
theorem mv_AL_grow0 : mov y_AL_grow0 := ⟨kw_573, kw_21⟩
theorem mo_AL_size : mok y_AL_size b_AL_size 1 (some FieldType.int) 0 := ⟨kw_470, kw_86, by decide, by decide, by decide +kernel⟩
theorem mv_AL_size : mov y_AL_size := ⟨kw_468, kw_469⟩
theorem mo_AL_elementData : mok y_AL_elementData b_AL_elementData 2 (some (FieldType.object "java/lang/Object")) 1 := ⟨kw_690, kw_86, by decide, by decide, by decide +kernel⟩
theorem mv_AL_elementData : mov y_AL_elementData := ⟨kw_688, kw_689⟩
theorem mo_AL_get : mok y_AL_get b_AL_get 2 (some (FieldType.object "java/lang/Object")) 1 := ⟨kw_680, kw_86, by decide, by decide, by decide +kernel⟩
theorem mv_AL_get : mov y_AL_get := ⟨kw_678, kw_679⟩
theorem mo_AL_add3 : mok y_AL_add3 b_AL_add3 4 (none : Option FieldType) 3 := ⟨kw_570, kw_86, by decide, by decide, by decide +kernel⟩
theorem mv_AL_add3 : mov y_AL_add3 := ⟨kw_569, kw_20⟩
theorem mo_AL_add : mok y_AL_add b_AL_add 2 (some FieldType.boolean) 1 := ⟨kw_566, kw_86, by decide, by decide, by decide +kernel⟩
theorem mv_AL_add : mov y_AL_add := ⟨kw_564, kw_565⟩
theorem mo_As_copyOf : mok y_As_copyOf b_As_copyOf 2 (some (FieldType.array (FieldType.object "java/lang/Object"))) 2 := ⟨kw_591, kw_95, by decide, by decide, by decide +kernel⟩
theorem ms_As_copyOf : Cond.static y_As_copyOf ∈ big := kw_590
theorem mo_As_copyOf3 : mok y_As_copyOf3 b_As_copyOf3 4 (some (FieldType.array (FieldType.object "java/lang/Object"))) 3 := ⟨kw_612, kw_95, by decide, by decide, by decide +kernel⟩
theorem ms_As_copyOf3 : Cond.static y_As_copyOf3 ∈ big := kw_611
theorem mo_Ob_checkIndex : mok y_Ob_checkIndex b_Ob_checkIndex 2 (some FieldType.int) 2 := ⟨kw_683, kw_97, by decide, by decide, by decide +kernel⟩
theorem ms_Ob_checkIndex : Cond.static y_Ob_checkIndex ∈ big := kw_682
theorem mo_Su_newLength : mok y_Su_newLength b_Su_newLength 4 (some FieldType.int) 3 := ⟨kw_581, kw_93, by decide, by decide, by decide +kernel⟩
theorem ms_Su_newLength : Cond.static y_Su_newLength ∈ big := kw_580
theorem mo_Su_hugeLength : mok y_Su_hugeLength b_Su_hugeLength 3 (some FieldType.int) 2 := ⟨kw_588, kw_93, by decide, by decide, by decide +kernel⟩
theorem ms_Su_hugeLength : Cond.static y_Su_hugeLength ∈ big := kw_587
theorem mo_Pr_checkIndex : mok y_Pr_checkIndex b_Pr_checkIndex 3 (some FieldType.int) 3 := ⟨kw_686, kw_98, by decide, by decide, by decide +kernel⟩
theorem ms_Pr_checkIndex : Cond.static y_Pr_checkIndex ∈ big := kw_685
theorem zb_nar {c : Prop} [Decidable c] : narrow .boolean (.int (zb c)) = .int (zb c) := by rcases zb_or (c := c) with h | h <;> rw [h] <;> rfl
theorem zb_fit {c : Prop} [Decidable c] : fits .boolean (.int (zb c)) = true := by rcases zb_or (c := c) with h | h <;> rw [h] <;> rfl
end
section
section GM
variable {κ : Kx} {l : Launch} {g : Gx} {R : Room} {cc : ByteArray} {nL : Nat} {own name : String} {ret : Option FieldType} {E : Ex} {cs ss pc q : Nat} {lv : List (Nat × Value)} {st : List Value} {X P : va_W}
theorem arrV_ext {cA : ClassId} {n : Nat} {f f' : Nat → Value} (h : ∀ j, j < n → f j = f' j) : arrV cA n f = arrV cA n f' := by
  unfold arrV
  congr 1
  apply Array.ext
  · simp
  · intro i h1 h2
    simp at h1
    simp [h i h1]
/-- a row of ints counts by its first n places alone -/
theorem g_exti {X1 : va_W} {a n : Nat} {cA : ClassId} {f f' : Nat → Int32} (i : Nat) (he : X[i]? = some (a, .inl (cA, n, .inl f))) (hf : ∀ j, j < n → f j = f' j) (hX : X.set i (a, .inl (cA, n, .inl f')) = X1) (k : G κ nL cs ss pc lv st X1 P) : G κ nL cs ss pc lv st X P := by
  intro H locs ls hl hP hD hS
  have he2 : (X ++ P)[i]? = some (a, .inl (cA, n, .inl f)) := by rw [List.getElem?_append_left (List.getElem?_eq_some_iff.mp he).1]; exact he
  have h0 := hP i _ he2
  have h1 : va_at κ.2.2.1.1.1 vwCl (a, .inl (cA, n, .inl f')) H := by
    show H[a]? = some (vp_cell cA (n, .inl f'))
    rw [vp_cell_i, ← arrV_ext (f := fun j => Value.int (f j)) (fun j hj => by rw [hf j hj])]
    exact h0
  have hP1 := hP.set hD he2 h1 (fun _ _ => rfl)
  have hD1 := hD.set (e := .inl (cA, n, .inl f')) he2
  rw [List.set_append_left _ _ (List.getElem?_eq_some_iff.mp he).1, hX] at hP1 hD1
  exact k H locs ls hl hP1 hD1 hS
theorem g_mmax (C : zC κ l g R cc nL own name ret E) {index : Nat} {x y : Int32} (hw : Cond.methodLink own index Lib.Math.max.name ∈ big) (h2 : Cond.static Lib.Math.max.name ∈ big) (h3 : Cond.initialized "java/lang/Math" ∈ big) (h4 : Cond.code Lib.Math.max.name Lib.Math.max.code 2 (some .int) ∈ big) (hf : 1 ≤ R.frames) (hlo : (st.map fun v => v.category).sum + 13 ≤ R.locals) (hc : cs ≤ R.cells) (hs : ss ≤ R.slots) (hd : dz cc pc (.invokestatic index) 3 q) (k : G κ nL cs ss q lv (.int (if x < y then y else x) :: st) X P) : G κ nL cs ss pc lv (.int y :: .int x :: st) X P := by
  obtain ⟨hd, rfl⟩ := hd
  intro H locs ls hl hP hD hS
  have hx := id C
  obtain ⟨h1', h2', h3', h4', h5, h6, h7, h8, -⟩ := hx
  refine va_mmax h4' h5 (h6.trans hl.1.symm) h7 (C.w hw) (C.w h2) (C.w h3) (C.w h4) (by rw [h3']; exact hf) (by rw [h3']; exact hlo) (by rw [h3']; exact hc) (by rw [h3']; exact hs) hd ?_
  exact k H locs ls hl hP hD hS
theorem g_mmin (C : zC κ l g R cc nL own name ret E) {index : Nat} {x y : Int32} (hw : Cond.methodLink own index Lib.Math.min.name ∈ big) (h2 : Cond.static Lib.Math.min.name ∈ big) (h3 : Cond.initialized "java/lang/Math" ∈ big) (h4 : Cond.code Lib.Math.min.name Lib.Math.min.code 2 (some .int) ∈ big) (hf : 1 ≤ R.frames) (hlo : (st.map fun v => v.category).sum + 13 ≤ R.locals) (hc : cs ≤ R.cells) (hs : ss ≤ R.slots) (hd : dz cc pc (.invokestatic index) 3 q) (k : G κ nL cs ss q lv (.int (if y < x then y else x) :: st) X P) : G κ nL cs ss pc lv (.int y :: .int x :: st) X P := by
  obtain ⟨hd, rfl⟩ := hd
  intro H locs ls hl hP hD hS
  have hx := id C
  obtain ⟨h1', h2', h3', h4', h5, h6, h7, h8, -⟩ := hx
  refine va_mmin h4' h5 (h6.trans hl.1.symm) h7 (C.w hw) (C.w h2) (C.w h3) (C.w h4) (by rw [h3']; exact hf) (by rw [h3']; exact hlo) (by rw [h3']; exact hc) (by rw [h3']; exact hs) hd ?_
  exact k H locs ls hl hP hD hS
end GM
section GT
variable {κ : Kx} {l : Launch} {g : Gx} {R : Room} {cc : ByteArray} {nL : Nat} {own name : String} {ret : Option FieldType} {E : Ex} {cs ss pc q : Nat} {lv : List (Nat × Value)} {st : List Value} {X P : va_W}
theorem g_tabIn (C : zC κ l g R cc nL own name ret E) {dflt lo hi off : Int} {offs : Array Int} {len tgt : Nat} {x : Int32} (c : Int32) (hx : x = c) (hd : dz cc pc (.tableswitch dflt lo hi offs) len q) (h1 : ¬ c.toInt < lo) (h2 : ¬ hi < c.toInt) (ho : offs[(c.toInt - lo).toNat]? = some off) (ht : (pc : Int) + off = (tgt : Int)) (k : G κ nL cs ss tgt lv st X P) : G κ nL cs ss pc lv (.int x :: st) X P := by
  subst hx
  obtain ⟨hd, -⟩ := hd
  intro H locs ls hl hP hD hS
  exact lv_tableIn C.2.2.2.1 C.2.2.2.2.1 hd h1 h2 ho ht (k H locs ls hl hP hD hS)
theorem g_tabOut (C : zC κ l g R cc nL own name ret E) {dflt hi : Int} {offs : Array Int} {len tgt : Nat} {x : Int32} (N : Nat) (hN : N < 1000) (hhi : hi = (N : Int)) (hx : ∀ c : Nat, c ≤ N → ¬ x = nI c) (hd : dz cc pc (.tableswitch dflt 0 hi offs) len q) (ht : (pc : Int) + dflt = (tgt : Int)) (k : G κ nL cs ss tgt lv st X P) : G κ nL cs ss pc lv (.int x :: st) X P := by
  obtain ⟨hd, -⟩ := hd
  intro H locs ls hl hP hD hS
  refine lv_tableOut C.2.2.2.1 C.2.2.2.2.1 hd ?_ ht (k H locs ls hl hP hD hS)
  rcases Int.lt_or_le x.toInt 0 with h | h
  · exact Or.inl h
  · refine Or.inr ?_
    rw [hhi]
    rcases Int.lt_or_le (N : Int) x.toInt with h2 | h2
    · exact h2
    · exfalso
      refine hx x.toInt.toNat (by omega) ?_
      apply Int32.toInt_inj.mp
      rw [nI_toInt (by omega)]
      omega
end GT
section GS
variable {κ : Kx} {nL cs ss pc : Nat} {lv : List (Nat × Value)} {st : List Value} {X P : va_W}
/-- some cells go to the tail -/
theorem g_split {X1 P1 : va_W} (ord : List Nat) (hn : va_nd ord = true) (h : pk X ord = X1 ++ P1) (k : G κ nL cs ss pc lv st X1 P1) : G κ nL cs ss pc lv st X [] := by
  intro H locs ls hl hP hD hS
  have a := ord_P (ord := ord) hP
  have b := ord_D hn hD
  rw [h, List.append_nil] at a b
  exact k H locs ls hl a b hS
/-- and come back -/
theorem g_merge {X1 : va_W} (ord : List Nat) (hn : va_nd ord = true) (h : pk (X ++ P) ord = X1) (k : G κ nL cs ss pc lv st X1 []) : G κ nL cs ss pc lv st X P := by
  intro H locs ls hl hP hD hS
  have a := ord_P (ord := ord) (Z := []) (by rw [List.append_nil]; exact hP)
  have b := ord_D (Z := []) hn (by rw [List.append_nil]; exact hD)
  rw [h] at a b
  exact k H locs ls hl a b hS
end GS
end
section
section GQ
variable {κ : Kx} {l : Launch} {g : Gx} {R : Room} {cc : ByteArray} {nL : Nat} {own name : String} {ret : Option FieldType} {E : Ex} {cs ss pc q : Nat} {lv : List (Nat × Value)} {st : List Value} {X P : va_W}
theorem g_qald (C : zC κ l g R cc nL own name ret E) {a n v : Nat} {f : Nat → Option Nat} {x : Int32} (i : Nat) (he : X[i]? = some (a, .inl (g.2.1 4, n, .inr (.inr (.inr (.inr f)))))) (hin : vp_in x n) (hv : f x.toNatClampNeg = some v) (hd : dz cc pc (.aaload) 1 q) (k : G κ nL cs ss q lv (.ref v :: st) X P) : G κ nL cs ss pc lv (.int x :: .ref a :: st) X P := by
  obtain ⟨hd, rfl⟩ := hd
  intro H locs ls hl hP hD hS
  have h := k H locs ls hl hP hD hS
  refine va_aldq C.2.2.2.1 C.2.2.2.2.1 C.K hP i 4 (by rw [List.getElem?_append_left (List.getElem?_eq_some_iff.mp he).1]; exact he) (C := "java/lang/Object") (by rw [C.2.1]; rfl) hin hd ?_
  rw [hv]
  exact h
theorem g_qast (C : zC κ l g R cc nL own name ret E) {a n v ci : Nat} {fs : List Value} {T : u_T} {N : Nat} {Cn : String} {f : Nat → Option Nat} {x : Int32} {X1 : va_W} (i j : Nat) (he : X[i]? = some (a, .inl (g.2.1 4, n, .inr (.inr (.inr (.inr f)))))) (hj : X[j]? = some (v, .inr (ci, fs))) (hc : vwCl[ci]? = some (Cn, T, N)) (hw : Cond.castable Cn "java/lang/Object" ∈ nn) (hin : vp_in x n) (hX : X.set i (a, .inl (g.2.1 4, n, .inr (.inr (.inr (.inr (va_up f x.toNatClampNeg (some v))))))) = X1) (hd : dz cc pc (.aastore) 1 q) (k : G κ nL cs ss q lv st X1 P) : G κ nL cs ss pc lv (.ref v :: .int x :: .ref a :: st) X P := by
  obtain ⟨hd, rfl⟩ := hd
  intro H locs ls hl hP hD hS
  have he2 : (X ++ P)[i]? = some (a, .inl (g.2.1 4, n, .inr (.inr (.inr (.inr f))))) := by rw [List.getElem?_append_left (List.getElem?_eq_some_iff.mp he).1]; exact he
  have hj2 : (X ++ P)[j]? = some (v, .inr (ci, fs)) := by rw [List.getElem?_append_left (List.getElem?_eq_some_iff.mp hj).1]; exact hj
  refine va_astqO C.2.2.2.1 C.2.2.2.2.1 C.K hP hD hS i 4 j ci he2 (E := "java/lang/Object") (by rw [C.2.1]; rfl) (C.ex.2.1 _ hw) hj2 hc hin hd (fun H1 l1 hP1 hD1 hS1 => ?_)
  rw [List.set_append_left _ _ (List.getElem?_eq_some_iff.mp he).1, hX] at hP1 hD1
  exact k H1 l1 ls hl hP1 hD1 hS1
theorem g_qalen (C : zC κ l g R cc nL own name ret E) {a n : Nat} {f : Nat → Option Nat} (i : Nat) (he : X[i]? = some (a, .inl (g.2.1 4, n, .inr (.inr (.inr (.inr f)))))) (hd : dz cc pc (.arraylength) 1 q) (k : G κ nL cs ss q lv (.int (nI n) :: st) X P) : G κ nL cs ss pc lv (.ref a :: st) X P := by
  obtain ⟨hd, rfl⟩ := hd
  intro H locs ls hl hP hD hS
  exact va_alen (x := (n, .inr (.inr (.inr (.inr f))))) C.2.2.2.1 C.2.2.2.2.1 C.K hP i 4 (by rw [List.getElem?_append_left (List.getElem?_eq_some_iff.mp he).1]; exact he) (ty := .object "java/lang/Object") (by rw [C.2.1]; rfl) rfl hd (k H locs ls hl hP hD hS)
theorem g_e0len (C : zC κ l g R cc nL own name ret E) (hd : dz cc pc (.arraylength) 1 q) (k : G κ nL cs ss q lv (.int 0 :: st) X P) : G κ nL cs ss pc lv (.ref g.2.2.1 :: st) X P := by
  obtain ⟨hd, rfl⟩ := hd
  intro H locs ls hl hP hD hS
  exact va_tlen C.2.2.2.1 C.2.2.2.2.1 C.ex.2.2.1.2 hS (v := 0) rfl hd (k H locs ls hl hP hD hS)
theorem g_gets (C : zC κ l g R cc nL own name ret E) {index : Nat} (hw : Cond.fieldLink own index "java/util/ArrayList" "DEFAULTCAPACITY_EMPTY_ELEMENTDATA" "[Ljava/lang/Object;" ∈ big) (hd : dz cc pc (.getstatic index) 3 q) (k : G κ nL cs ss q lv (.ref g.2.2.1 :: st) X P) : G κ nL cs ss pc lv st X P := by
  obtain ⟨hd, rfl⟩ := hd
  intro H locs ls hl hP hD hS
  exact va_gets C.2.2.2.1 C.2.2.2.2.1 C.ex.2.2.1.1 hS C.2.2.2.2.2.2.1 (C.w hw) (fun _ h => h) hd (k H locs ls hl hP hD hS)
theorem g_acmp_eq (C : zC κ l g R cc nL own name ret E) {a b tgt : Nat} (hd : dj cc pc (.if_acmp .eq) q tgt) (kt : a = b → G κ nL cs ss tgt lv st X P) (kf : ¬ a = b → G κ nL cs ss q lv st X P) : G κ nL cs ss pc lv (.ref b :: .ref a :: st) X P := by
  obtain ⟨off, hd, rfl, ht⟩ := hd
  intro H locs ls hl hP hD hS
  exact lv_acmp_eq (rx := some a) (ry := some b) C.2.2.2.1 C.2.2.2.2.1 hd ht (fun h => kt (Option.some.inj h) H locs ls hl hP hD hS) (fun h => kf (fun z => h (congrArg some z)) H locs ls hl hP hD hS)
theorem g_acmp_ne (C : zC κ l g R cc nL own name ret E) {a b tgt : Nat} (hd : dj cc pc (.if_acmp .ne) q tgt) (kt : ¬ a = b → G κ nL cs ss tgt lv st X P) (kf : a = b → G κ nL cs ss q lv st X P) : G κ nL cs ss pc lv (.ref b :: .ref a :: st) X P := by
  obtain ⟨off, hd, rfl, ht⟩ := hd
  intro H locs ls hl hP hD hS
  exact lv_acmp_ne (rx := some a) (ry := some b) C.2.2.2.1 C.2.2.2.2.1 hd ht (fun h => kt (fun z => h (congrArg some z)) H locs ls hl hP hD hS) (fun h => kf (Option.some.inj h) H locs ls hl hP hD hS)
theorem g_newq (C : zC κ l g R cc nL own name ret E) {index : Nat} {n : Int32} (N : Nat) (hw : Cond.classLink own index "java/lang/Object" ∈ big) (hn : ¬ n < 0) (hN : n.toNatClampNeg = N) (hby : N * 4 ≤ 536870912) (hcc : cs + 1 ≤ R.cells) (hss : ss + N ≤ R.slots) (hd : dz cc pc (.anewarray index) 3 q)
    (k : ∀ a : Nat, (∀ x ∈ X ++ P, x.1 ≠ a) → G κ nL (cs + 1) (ss + N) q lv (.ref a :: st) (X ++ [(a, .inl (g.2.1 4, N, .inr (.inr (.inr (.inr (fun _ => none))))))]) P) : G κ nL cs ss pc lv (.int n :: st) X P := by
  obtain ⟨hd, rfl⟩ := hd
  intro H locs ls hl hP hD hS
  have hx := id C
  obtain ⟨h1, h2', h3', h4, h5, h6, h7, h8, -⟩ := hx
  refine va_newq h4 h5 h7 (C.w hw) C.ex.2.2.2.2 C.K hP hD hS C.A hn hN hby (by rw [h3']; exact hcc) (by rw [h3']; exact hss) hd (fun a cA H1 hK1 hP1 hD1 hS1 => ?_)
  have e1 := va_nmO (hK1.2 5 (cA, .object "java/lang/Object") rfl).2 rfl
  have e2 := va_nmO (C.K.2 4 (κ.2.2.1.1.2.1 4, .object "java/lang/Object") rfl).2 rfl
  have e3 : cA = g.2.1 4 := by rw [← C.2.1]; exact Option.some.inj (Eq.trans (Eq.symm e1) e2)
  subst e3
  exact k a (fun x hx => D_apart hD1 x hx _ (List.mem_singleton.mpr rfl)) H1 locs ls hl (P_perm push_perm hP1) (D_perm push_perm hD1) hS1
theorem g_cast (C : zC κ l g R cc nL own name ret E) {index a ci : Nat} {Cn : String} {T : u_T} {N : Nat} (hw : Cond.classLink own index Cn ∈ big) (hc : vwCl[ci]? = some (Cn, T, N)) (hr : rcv (X ++ P) a Cn) (hd : dz cc pc (.checkcast index) 3 q) (k : G κ nL cs ss q lv (.ref a :: st) X P) : G κ nL cs ss pc lv (.ref a :: st) X P := by
  obtain ⟨hd, rfl⟩ := hd
  intro H locs ls hl hP hD hS
  exact va_castS C.2.2.2.1 C.2.2.2.2.1 C.2.2.2.2.2.2.1 (C.w hw) (C.K.1 ci _ hc).2 (rcv_of C hP hr) hd (k H locs ls hl hP hD hS)
theorem g_ldcM (C : zC κ l g R cc nL own name ret E) {index : Nat} (hw : Cond.classLink own index "[Ljava/lang/Object;" ∈ big) (hd : dz cc pc (.ldc index) 2 q) (k : G κ nL cs ss q lv (.ref g.2.2.2 :: st) X P) : G κ nL cs ss pc lv st X P := by
  obtain ⟨hd, rfl⟩ := hd
  intro H locs ls hl hP hD hS
  exact va_ldcM C.2.2.2.1 C.2.2.2.2.1 C.2.2.2.2.2.2.1 (C.w hw) C.ex.2.2.2.1 hd (k H locs ls hl hP hD hS)
theorem g_getC (C : zC κ l g R cc nL own name ret E) {index a n : Nat} {f : Nat → Option Nat} (i : Nat) (he : X[i]? = some (a, .inl (g.2.1 4, n, .inr (.inr (.inr (.inr f)))))) (hw : Cond.methodLink own index ⟨"java/lang/Object", "getClass", "()Ljava/lang/Class;"⟩ ∈ big) (h1 : Cond.declares ⟨"java/lang/Object", "getClass", "()Ljava/lang/Class;"⟩ ∈ nn) (h2 : Cond.selects "[Ljava/lang/Object;" ⟨"java/lang/Object", "getClass", "()Ljava/lang/Class;"⟩ ⟨"java/lang/Object", "getClass", "()Ljava/lang/Class;"⟩ ∈ big) (h3 : Cond.instanceMethod ⟨"java/lang/Object", "getClass", "()Ljava/lang/Class;"⟩ ∈ big) (h4 : Cond.native ⟨"java/lang/Object", "getClass", "()Ljava/lang/Class;"⟩ ∈ big) (hf : 1 ≤ R.frames) (hlo : (st.map fun v => v.category).sum + 14 ≤ R.locals) (hd : dz cc pc (.invokevirtual index) 3 q) (k : G κ nL cs ss q lv (.ref g.2.2.2 :: st) X P) : G κ nL cs ss pc lv (.ref a :: st) X P := by
  obtain ⟨hd, rfl⟩ := hd
  intro H locs ls hl hP hD hS
  have hx := id C
  obtain ⟨q1, q2, q3, q4, q5, q6, q7, q8, -⟩ := hx
  have he2 : (X ++ P)[i]? = some (a, .inl (g.2.1 4, n, .inr (.inr (.inr (.inr f))))) := by rw [List.getElem?_append_left (List.getElem?_eq_some_iff.mp he).1]; exact he
  have e2 := va_nmO (C.K.2 4 (κ.2.2.1.1.2.1 4, .object "java/lang/Object") rfl).2 rfl
  refine va_getC (C := "[Ljava/lang/Object;") q4 q5 (q6.trans hl.1.symm) q7 (C.w hw) (C.nw h1) (C.w h2) (C.w h3) (C.w h4) C.ex.2.2.2.1 ⟨vp_cell (g.2.1 4) (n, .inr (.inr (.inr (.inr f)))), hP i _ he2, rfl, ?_⟩ (by rw [q3]; exact hf) (by rw [q3]; exact hlo) hd (k H locs ls hl hP hD hS)
  rw [← q2]
  exact e2
/-- the elements of a row are objects that a row of Objects may hold -/
def elk (ws : va_W) (f : Nat → Option Nat) (n : Nat) : Prop := ∀ i, i < n → ∀ y, f i = some y → ∃ (ci : Nat) (fs : List Value) (Cn : String) (T : u_T) (N : Nat), (y, .inr (ci, fs)) ∈ ws ∧ vwCl[ci]? = some (Cn, T, N) ∧ Cond.castable Cn "java/lang/Object" ∈ nn
theorem g_copy (C : zC κ l g R cc nL own name ret E) {index a b n0 n1 : Nat} {f h : Nat → Option Nat} {n : Int32} {X1 : va_W} (i j N : Nat) (he : X[i]? = some (a, .inl (g.2.1 4, n0, .inr (.inr (.inr (.inr f)))))) (hj : X[j]? = some (b, .inl (g.2.1 4, n1, .inr (.inr (.inr (.inr h)))))) (hn : ¬ n < 0) (hN : n.toNatClampNeg = N) (h4 : N ≤ n0) (h5 : N ≤ n1) (hel : elk (X ++ P) f N) (w1 : Cond.methodLink own index arraycopyName ∈ big) (w2 : Cond.native arraycopyName ∈ big) (w3 : Cond.static arraycopyName ∈ big) (w4 : Cond.initialized "java/lang/System" ∈ big) (hX : X.set j (b, .inl (g.2.1 4, n1, .inr (.inr (.inr (.inr (va_cpy f h 0 0 N)))))) = X1) (hf : 1 ≤ R.frames) (hlo : (st.map fun v => v.category).sum + (nativeFrameWords "java/lang/System" "arraycopy" 5 + 11) ≤ R.locals) (hd : dz cc pc (.invokestatic index) 3 q) (k : G κ nL cs ss q lv st X1 P) : G κ nL cs ss pc lv (.int n :: .int 0 :: .ref b :: .int 0 :: .ref a :: st) X P := by
  obtain ⟨hd, rfl⟩ := hd
  subst hN
  intro H locs ls hl hP hD hS
  have hx := id C
  obtain ⟨q1, q2, q3, q4, q5, q6, q7, q8, -⟩ := hx
  have he2 : (X ++ P)[i]? = some (a, .inl (g.2.1 4, n0, .inr (.inr (.inr (.inr f))))) := by rw [List.getElem?_append_left (List.getElem?_eq_some_iff.mp he).1]; exact he
  have hj2 : (X ++ P)[j]? = some (b, .inl (g.2.1 4, n1, .inr (.inr (.inr (.inr h))))) := by rw [List.getElem?_append_left (List.getElem?_eq_some_iff.mp hj).1]; exact hj
  have e0 : (0 : Int32).toNatClampNeg = 0 := by decide
  refine va_copyM q4 q5 (q6.trans hl.1.symm) q7 (C.w w1) (C.w w2) (C.w w3) (C.w w4) C.K hP hD hS i j 4 4 he2 hj2 (E0 := "java/lang/Object") (E1 := "java/lang/Object") (by rw [q2]; rfl) (by rw [q2]; rfl) (by decide) (by decide) hn (by rw [e0]; omega) (by rw [e0]; omega) (fun z hz y hy => ?_) (by rw [q3]; exact hf) (by rw [q3]; exact hlo) hd (fun H1 l1 hP1 hD1 hS1 => ?_)
  · rw [e0, Nat.zero_add] at hy
    obtain ⟨ci, fs, Cn, T, N, g1, g2, g3⟩ := hel z hz y hy
    obtain ⟨kk, hk⟩ := List.getElem?_of_mem g1
    refine va_rAny C.K hP hk g2 (fun comp c0 p1 p2 => ?_)
    obtain ⟨c3, t3, w1, w2, w3⟩ := Cond.castable_spec (va_Nw.use (A := #[]) rfl (C.ex.2.1 _ g3))
    cases p1.symm.trans w2
    cases p2.symm.trans w1
    exact w3
  · rw [e0, List.set_append_left _ _ (List.getElem?_eq_some_iff.mp hj).1, hX] at hP1 hD1
    exact k H1 l1 ls hl hP1 hD1 hS1
end GQ
end
