-- ===== PART A: goes FIRST, ahead of the names: the tables' words, and 'selects' of the private methods out of them =====
/-- a private method of a class that the tables say can be made, by its rows of tables_1 -/
def lw_okq (q : MethodName × Nat) : Prop := (q.1.cls ≠ "java/lang/invoke/MethodHandle" ∧ q.1.cls ≠ "java/lang/invoke/VarHandle") ∧ Cond.instantiable q.1.cls q.2 ∈ tables_1 ∧ Cond.privateMethod q.1 ∈ tables_1 ∧ Cond.instanceMethod q.1 ∈ tables_1
theorem lw_p0 : lw_okq (⟨"MovingStair", "putBytes", "(I)V"⟩, 14) := ⟨⟨by decide +kernel, by decide +kernel⟩, List.mem_of_getElem? (i := 21) (by decide +kernel), List.mem_of_getElem? (i := 409) (by decide +kernel), List.mem_of_getElem? (i := 410) (by decide +kernel)⟩
theorem lw_p1 : lw_okq (⟨"MovingStair$Reader", "advance", "()V"⟩, 8) := ⟨⟨by decide +kernel, by decide +kernel⟩, List.mem_of_getElem? (i := 121) (by decide +kernel), List.mem_of_getElem? (i := 432) (by decide +kernel), List.mem_of_getElem? (i := 433) (by decide +kernel)⟩
theorem lw_p2 : lw_okq (⟨"MovingStair$Reader", "kindAt", "(I)I"⟩, 8) := ⟨⟨by decide +kernel, by decide +kernel⟩, List.mem_of_getElem? (i := 121) (by decide +kernel), List.mem_of_getElem? (i := 436) (by decide +kernel), List.mem_of_getElem? (i := 437) (by decide +kernel)⟩
theorem lw_p3 : lw_okq (⟨"MovingStair$Reader", "readLine", "()V"⟩, 8) := ⟨⟨by decide +kernel, by decide +kernel⟩, List.mem_of_getElem? (i := 121) (by decide +kernel), List.mem_of_getElem? (i := 440) (by decide +kernel), List.mem_of_getElem? (i := 441) (by decide +kernel)⟩
theorem lw_p4 : lw_okq (⟨"MovingStair$Reader", "readHead", "()V"⟩, 8) := ⟨⟨by decide +kernel, by decide +kernel⟩, List.mem_of_getElem? (i := 121) (by decide +kernel), List.mem_of_getElem? (i := 444) (by decide +kernel), List.mem_of_getElem? (i := 445) (by decide +kernel)⟩
theorem lw_p5 : lw_okq (⟨"MovingStair$Reader", "expectWord", "(Ljava/lang/String;)V"⟩, 8) := ⟨⟨by decide +kernel, by decide +kernel⟩, List.mem_of_getElem? (i := 121) (by decide +kernel), List.mem_of_getElem? (i := 449) (by decide +kernel), List.mem_of_getElem? (i := 450) (by decide +kernel)⟩
theorem lw_p6 : lw_okq (⟨"MovingStair$Reader", "isWord", "(Ljava/lang/String;)Z"⟩, 8) := ⟨⟨by decide +kernel, by decide +kernel⟩, List.mem_of_getElem? (i := 121) (by decide +kernel), List.mem_of_getElem? (i := 453) (by decide +kernel), List.mem_of_getElem? (i := 454) (by decide +kernel)⟩
theorem lw_p7 : lw_okq (⟨"MovingStair$Reader", "refuse", "(I)V"⟩, 8) := ⟨⟨by decide +kernel, by decide +kernel⟩, List.mem_of_getElem? (i := 121) (by decide +kernel), List.mem_of_getElem? (i := 505) (by decide +kernel), List.mem_of_getElem? (i := 506) (by decide +kernel)⟩
theorem lw_p8 : lw_okq (⟨"MovingStair$Reader", "namedNumber", "(Ljava/lang/String;II)I"⟩, 8) := ⟨⟨by decide +kernel, by decide +kernel⟩, List.mem_of_getElem? (i := 121) (by decide +kernel), List.mem_of_getElem? (i := 510) (by decide +kernel), List.mem_of_getElem? (i := 511) (by decide +kernel)⟩
theorem lw_p9 : lw_okq (⟨"MovingStair$Reader", "boundedNumber", "(II)I"⟩, 8) := ⟨⟨by decide +kernel, by decide +kernel⟩, List.mem_of_getElem? (i := 121) (by decide +kernel), List.mem_of_getElem? (i := 514) (by decide +kernel), List.mem_of_getElem? (i := 515) (by decide +kernel)⟩
theorem lw_p10 : lw_okq (⟨"MovingStair$Reader", "numberHere", "()I"⟩, 8) := ⟨⟨by decide +kernel, by decide +kernel⟩, List.mem_of_getElem? (i := 121) (by decide +kernel), List.mem_of_getElem? (i := 518) (by decide +kernel), List.mem_of_getElem? (i := 519) (by decide +kernel)⟩
theorem lw_p11 : lw_okq (⟨"MovingStair$Reader", "readPart", "()V"⟩, 8) := ⟨⟨by decide +kernel, by decide +kernel⟩, List.mem_of_getElem? (i := 121) (by decide +kernel), List.mem_of_getElem? (i := 524) (by decide +kernel), List.mem_of_getElem? (i := 525) (by decide +kernel)⟩
theorem lw_p12 : lw_okq (⟨"MovingStair$Reader", "readWalker", "()V"⟩, 8) := ⟨⟨by decide +kernel, by decide +kernel⟩, List.mem_of_getElem? (i := 121) (by decide +kernel), List.mem_of_getElem? (i := 532) (by decide +kernel), List.mem_of_getElem? (i := 533) (by decide +kernel)⟩
theorem lw_p13 : lw_okq (⟨"MovingStair$Reader", "readSides", "()V"⟩, 8) := ⟨⟨by decide +kernel, by decide +kernel⟩, List.mem_of_getElem? (i := 121) (by decide +kernel), List.mem_of_getElem? (i := 538) (by decide +kernel), List.mem_of_getElem? (i := 539) (by decide +kernel)⟩
theorem lw_p14 : lw_okq (⟨"MovingStair$Reader", "readBand", "()V"⟩, 8) := ⟨⟨by decide +kernel, by decide +kernel⟩, List.mem_of_getElem? (i := 121) (by decide +kernel), List.mem_of_getElem? (i := 546) (by decide +kernel), List.mem_of_getElem? (i := 547) (by decide +kernel)⟩
theorem lw_p15 : lw_okq (⟨"MovingStair$Travel", "addTimes", "(LMovingStair$Layout;IIII)Z"⟩, 3) := ⟨⟨by decide +kernel, by decide +kernel⟩, List.mem_of_getElem? (i := 160) (by decide +kernel), List.mem_of_getElem? (i := 593) (by decide +kernel), List.mem_of_getElem? (i := 594) (by decide +kernel)⟩
def lw_privs_1 : List (MethodName × Nat) := [(⟨"MovingStair", "putBytes", "(I)V"⟩, 14), (⟨"MovingStair$Reader", "advance", "()V"⟩, 8), (⟨"MovingStair$Reader", "kindAt", "(I)I"⟩, 8), (⟨"MovingStair$Reader", "readLine", "()V"⟩, 8), (⟨"MovingStair$Reader", "readHead", "()V"⟩, 8), (⟨"MovingStair$Reader", "expectWord", "(Ljava/lang/String;)V"⟩, 8), (⟨"MovingStair$Reader", "isWord", "(Ljava/lang/String;)Z"⟩, 8), (⟨"MovingStair$Reader", "refuse", "(I)V"⟩, 8), (⟨"MovingStair$Reader", "namedNumber", "(Ljava/lang/String;II)I"⟩, 8), (⟨"MovingStair$Reader", "boundedNumber", "(II)I"⟩, 8), (⟨"MovingStair$Reader", "numberHere", "()I"⟩, 8), (⟨"MovingStair$Reader", "readPart", "()V"⟩, 8), (⟨"MovingStair$Reader", "readWalker", "()V"⟩, 8), (⟨"MovingStair$Reader", "readSides", "()V"⟩, 8), (⟨"MovingStair$Reader", "readBand", "()V"⟩, 8), (⟨"MovingStair$Travel", "addTimes", "(LMovingStair$Layout;IIII)Z"⟩, 3)]
theorem lw_r1 : ∀ q ∈ lw_privs_1, lw_okq q := List.forall_mem_cons.mpr ⟨lw_p0, List.forall_mem_cons.mpr ⟨lw_p1, List.forall_mem_cons.mpr ⟨lw_p2, List.forall_mem_cons.mpr ⟨lw_p3, List.forall_mem_cons.mpr ⟨lw_p4, List.forall_mem_cons.mpr ⟨lw_p5, List.forall_mem_cons.mpr ⟨lw_p6, List.forall_mem_cons.mpr ⟨lw_p7, List.forall_mem_cons.mpr ⟨lw_p8, List.forall_mem_cons.mpr ⟨lw_p9, List.forall_mem_cons.mpr ⟨lw_p10, List.forall_mem_cons.mpr ⟨lw_p11, List.forall_mem_cons.mpr ⟨lw_p12, List.forall_mem_cons.mpr ⟨lw_p13, List.forall_mem_cons.mpr ⟨lw_p14, List.forall_mem_cons.mpr ⟨lw_p15, fun _ h => absurd h List.not_mem_nil⟩⟩⟩⟩⟩⟩⟩⟩⟩⟩⟩⟩⟩⟩⟩⟩
theorem lw_p16 : lw_okq (⟨"MovingStair$Travel", "carry", "(LMovingStair$Layout;II)I"⟩, 3) := ⟨⟨by decide +kernel, by decide +kernel⟩, List.mem_of_getElem? (i := 160) (by decide +kernel), List.mem_of_getElem? (i := 633) (by decide +kernel), List.mem_of_getElem? (i := 634) (by decide +kernel)⟩
theorem lw_p17 : lw_okq (⟨"MovingStair", "canStop", "(II)Z"⟩, 14) := ⟨⟨by decide +kernel, by decide +kernel⟩, List.mem_of_getElem? (i := 21) (by decide +kernel), List.mem_of_getElem? (i := 691) (by decide +kernel), List.mem_of_getElem? (i := 692) (by decide +kernel)⟩
theorem lw_p18 : lw_okq (⟨"MovingStair", "bestStop", "(II)I"⟩, 14) := ⟨⟨by decide +kernel, by decide +kernel⟩, List.mem_of_getElem? (i := 21) (by decide +kernel), List.mem_of_getElem? (i := 695) (by decide +kernel), List.mem_of_getElem? (i := 696) (by decide +kernel)⟩
theorem lw_p19 : lw_okq (⟨"MovingStair$Travel", "changes", "(LMovingStair$Layout;IIIZI)Z"⟩, 3) := ⟨⟨by decide +kernel, by decide +kernel⟩, List.mem_of_getElem? (i := 160) (by decide +kernel), List.mem_of_getElem? (i := 703) (by decide +kernel), List.mem_of_getElem? (i := 704) (by decide +kernel)⟩
theorem lw_p20 : lw_okq (⟨"MovingStair", "bestRun", "(III)I"⟩, 14) := ⟨⟨by decide +kernel, by decide +kernel⟩, List.mem_of_getElem? (i := 21) (by decide +kernel), List.mem_of_getElem? (i := 722) (by decide +kernel), List.mem_of_getElem? (i := 723) (by decide +kernel)⟩
theorem lw_p21 : lw_okq (⟨"MovingStair", "openCounts", "(I)I"⟩, 14) := ⟨⟨by decide +kernel, by decide +kernel⟩, List.mem_of_getElem? (i := 21) (by decide +kernel), List.mem_of_getElem? (i := 774) (by decide +kernel), List.mem_of_getElem? (i := 775) (by decide +kernel)⟩
theorem lw_p22 : lw_okq (⟨"MovingStair$Counts", "findEnds", "()V"⟩, 16) := ⟨⟨by decide +kernel, by decide +kernel⟩, List.mem_of_getElem? (i := 195) (by decide +kernel), List.mem_of_getElem? (i := 794) (by decide +kernel), List.mem_of_getElem? (i := 795) (by decide +kernel)⟩
theorem lw_p23 : lw_okq (⟨"MovingStair$Counts", "findOne", "(III)V"⟩, 16) := ⟨⟨by decide +kernel, by decide +kernel⟩, List.mem_of_getElem? (i := 195) (by decide +kernel), List.mem_of_getElem? (i := 798) (by decide +kernel), List.mem_of_getElem? (i := 799) (by decide +kernel)⟩
theorem lw_p24 : lw_okq (⟨"MovingStair$Counts", "markFitting", "([IIII)V"⟩, 16) := ⟨⟨by decide +kernel, by decide +kernel⟩, List.mem_of_getElem? (i := 195) (by decide +kernel), List.mem_of_getElem? (i := 839) (by decide +kernel), List.mem_of_getElem? (i := 840) (by decide +kernel)⟩
theorem lw_p25 : lw_okq (⟨"MovingStair", "openFewCounts", "(I)I"⟩, 14) := ⟨⟨by decide +kernel, by decide +kernel⟩, List.mem_of_getElem? (i := 21) (by decide +kernel), List.mem_of_getElem? (i := 857) (by decide +kernel), List.mem_of_getElem? (i := 858) (by decide +kernel)⟩
theorem lw_p26 : lw_okq (⟨"MovingStair$Counts", "markWays", "(II)I"⟩, 16) := ⟨⟨by decide +kernel, by decide +kernel⟩, List.mem_of_getElem? (i := 195) (by decide +kernel), List.mem_of_getElem? (i := 869) (by decide +kernel), List.mem_of_getElem? (i := 870) (by decide +kernel)⟩
theorem lw_p27 : lw_okq (⟨"MovingStair$Counts", "worstAfter", "(II)I"⟩, 16) := ⟨⟨by decide +kernel, by decide +kernel⟩, List.mem_of_getElem? (i := 195) (by decide +kernel), List.mem_of_getElem? (i := 882) (by decide +kernel), List.mem_of_getElem? (i := 883) (by decide +kernel)⟩
theorem lw_p28 : lw_okq (⟨"MovingStair", "openTwoCounts", "(II)I"⟩, 14) := ⟨⟨by decide +kernel, by decide +kernel⟩, List.mem_of_getElem? (i := 21) (by decide +kernel), List.mem_of_getElem? (i := 894) (by decide +kernel), List.mem_of_getElem? (i := 895) (by decide +kernel)⟩
theorem lw_p29 : lw_okq (⟨"MovingStair$Counts", "divisor", "()J"⟩, 16) := ⟨⟨by decide +kernel, by decide +kernel⟩, List.mem_of_getElem? (i := 195) (by decide +kernel), List.mem_of_getElem? (i := 902) (by decide +kernel), List.mem_of_getElem? (i := 903) (by decide +kernel)⟩
theorem lw_p30 : lw_okq (⟨"MovingStair", "hasFlow", "(I)Z"⟩, 14) := ⟨⟨by decide +kernel, by decide +kernel⟩, List.mem_of_getElem? (i := 21) (by decide +kernel), List.mem_of_getElem? (i := 919) (by decide +kernel), List.mem_of_getElem? (i := 920) (by decide +kernel)⟩
theorem lw_p31 : lw_okq (⟨"MovingStair", "walkingAgainstStanding", "(II)I"⟩, 14) := ⟨⟨by decide +kernel, by decide +kernel⟩, List.mem_of_getElem? (i := 21) (by decide +kernel), List.mem_of_getElem? (i := 942) (by decide +kernel), List.mem_of_getElem? (i := 943) (by decide +kernel)⟩
def lw_privs_2 : List (MethodName × Nat) := [(⟨"MovingStair$Travel", "carry", "(LMovingStair$Layout;II)I"⟩, 3), (⟨"MovingStair", "canStop", "(II)Z"⟩, 14), (⟨"MovingStair", "bestStop", "(II)I"⟩, 14), (⟨"MovingStair$Travel", "changes", "(LMovingStair$Layout;IIIZI)Z"⟩, 3), (⟨"MovingStair", "bestRun", "(III)I"⟩, 14), (⟨"MovingStair", "openCounts", "(I)I"⟩, 14), (⟨"MovingStair$Counts", "findEnds", "()V"⟩, 16), (⟨"MovingStair$Counts", "findOne", "(III)V"⟩, 16), (⟨"MovingStair$Counts", "markFitting", "([IIII)V"⟩, 16), (⟨"MovingStair", "openFewCounts", "(I)I"⟩, 14), (⟨"MovingStair$Counts", "markWays", "(II)I"⟩, 16), (⟨"MovingStair$Counts", "worstAfter", "(II)I"⟩, 16), (⟨"MovingStair", "openTwoCounts", "(II)I"⟩, 14), (⟨"MovingStair$Counts", "divisor", "()J"⟩, 16), (⟨"MovingStair", "hasFlow", "(I)Z"⟩, 14), (⟨"MovingStair", "walkingAgainstStanding", "(II)I"⟩, 14)]
theorem lw_r2 : ∀ q ∈ lw_privs_2, lw_okq q := List.forall_mem_cons.mpr ⟨lw_p16, List.forall_mem_cons.mpr ⟨lw_p17, List.forall_mem_cons.mpr ⟨lw_p18, List.forall_mem_cons.mpr ⟨lw_p19, List.forall_mem_cons.mpr ⟨lw_p20, List.forall_mem_cons.mpr ⟨lw_p21, List.forall_mem_cons.mpr ⟨lw_p22, List.forall_mem_cons.mpr ⟨lw_p23, List.forall_mem_cons.mpr ⟨lw_p24, List.forall_mem_cons.mpr ⟨lw_p25, List.forall_mem_cons.mpr ⟨lw_p26, List.forall_mem_cons.mpr ⟨lw_p27, List.forall_mem_cons.mpr ⟨lw_p28, List.forall_mem_cons.mpr ⟨lw_p29, List.forall_mem_cons.mpr ⟨lw_p30, List.forall_mem_cons.mpr ⟨lw_p31, fun _ h => absurd h List.not_mem_nil⟩⟩⟩⟩⟩⟩⟩⟩⟩⟩⟩⟩⟩⟩⟩⟩
theorem lw_p32 : lw_okq (⟨"MovingStair", "openCrowd", "(III)I"⟩, 14) := ⟨⟨by decide +kernel, by decide +kernel⟩, List.mem_of_getElem? (i := 21) (by decide +kernel), List.mem_of_getElem? (i := 954) (by decide +kernel), List.mem_of_getElem? (i := 955) (by decide +kernel)⟩
theorem lw_p33 : lw_okq (⟨"MovingStair", "crowdState", "(II)I"⟩, 14) := ⟨⟨by decide +kernel, by decide +kernel⟩, List.mem_of_getElem? (i := 21) (by decide +kernel), List.mem_of_getElem? (i := 958) (by decide +kernel), List.mem_of_getElem? (i := 959) (by decide +kernel)⟩
theorem lw_p34 : lw_okq (⟨"MovingStair", "openSides", "(III)I"⟩, 14) := ⟨⟨by decide +kernel, by decide +kernel⟩, List.mem_of_getElem? (i := 21) (by decide +kernel), List.mem_of_getElem? (i := 983) (by decide +kernel), List.mem_of_getElem? (i := 984) (by decide +kernel)⟩
theorem lw_p35 : lw_okq (⟨"MovingStair$Queue", "leastWait", "(IIIJJJ)J"⟩, 9) := ⟨⟨by decide +kernel, by decide +kernel⟩, List.mem_of_getElem? (i := 255) (by decide +kernel), List.mem_of_getElem? (i := 997) (by decide +kernel), List.mem_of_getElem? (i := 998) (by decide +kernel)⟩
theorem lw_p36 : lw_okq (⟨"MovingStair", "openTurning", "(II)I"⟩, 14) := ⟨⟨by decide +kernel, by decide +kernel⟩, List.mem_of_getElem? (i := 21) (by decide +kernel), List.mem_of_getElem? (i := 1012) (by decide +kernel), List.mem_of_getElem? (i := 1013) (by decide +kernel)⟩
theorem lw_p37 : lw_okq (⟨"MovingStair$Turning", "fillHour", "(III)V"⟩, 8) := ⟨⟨by decide +kernel, by decide +kernel⟩, List.mem_of_getElem? (i := 295) (by decide +kernel), List.mem_of_getElem? (i := 1022) (by decide +kernel), List.mem_of_getElem? (i := 1023) (by decide +kernel)⟩
theorem lw_p38 : lw_okq (⟨"MovingStair$Turning", "bestAfter", "(II)I"⟩, 8) := ⟨⟨by decide +kernel, by decide +kernel⟩, List.mem_of_getElem? (i := 295) (by decide +kernel), List.mem_of_getElem? (i := 1027) (by decide +kernel), List.mem_of_getElem? (i := 1028) (by decide +kernel)⟩
theorem lw_p39 : lw_okq (⟨"MovingStair$Turning", "priceOf", "(III)I"⟩, 8) := ⟨⟨by decide +kernel, by decide +kernel⟩, List.mem_of_getElem? (i := 295) (by decide +kernel), List.mem_of_getElem? (i := 1031) (by decide +kernel), List.mem_of_getElem? (i := 1032) (by decide +kernel)⟩
theorem lw_p40 : lw_okq (⟨"MovingStair$Turning", "choose", "()V"⟩, 8) := ⟨⟨by decide +kernel, by decide +kernel⟩, List.mem_of_getElem? (i := 295) (by decide +kernel), List.mem_of_getElem? (i := 1036) (by decide +kernel), List.mem_of_getElem? (i := 1037) (by decide +kernel)⟩
theorem lw_p41 : lw_okq (⟨"MovingStair", "openStream", "(III)I"⟩, 14) := ⟨⟨by decide +kernel, by decide +kernel⟩, List.mem_of_getElem? (i := 21) (by decide +kernel), List.mem_of_getElem? (i := 1052) (by decide +kernel), List.mem_of_getElem? (i := 1053) (by decide +kernel)⟩
theorem lw_p42 : lw_okq (⟨"MovingStair", "stillFrom", "(J)I"⟩, 14) := ⟨⟨by decide +kernel, by decide +kernel⟩, List.mem_of_getElem? (i := 21) (by decide +kernel), List.mem_of_getElem? (i := 1109) (by decide +kernel), List.mem_of_getElem? (i := 1110) (by decide +kernel)⟩
theorem lw_p43 : lw_okq (⟨"MovingStair", "heldSlots", "()I"⟩, 14) := ⟨⟨by decide +kernel, by decide +kernel⟩, List.mem_of_getElem? (i := 21) (by decide +kernel), List.mem_of_getElem? (i := 1135) (by decide +kernel), List.mem_of_getElem? (i := 1136) (by decide +kernel)⟩
theorem lw_p44 : lw_okq (⟨"MovingStairModel", "four", "(I)V"⟩, 44) := ⟨⟨by decide +kernel, by decide +kernel⟩, List.mem_of_getElem? (i := 1171) (by decide +kernel), List.mem_of_getElem? (i := 1336) (by decide +kernel), List.mem_of_getElem? (i := 1337) (by decide +kernel)⟩
theorem lw_p45 : lw_okq (⟨"MovingStairModel", "clears0", "()V"⟩, 44) := ⟨⟨by decide +kernel, by decide +kernel⟩, List.mem_of_getElem? (i := 1171) (by decide +kernel), List.mem_of_getElem? (i := 1352) (by decide +kernel), List.mem_of_getElem? (i := 1353) (by decide +kernel)⟩
theorem lw_p46 : lw_okq (⟨"MovingStairModel", "tells", "(II)V"⟩, 44) := ⟨⟨by decide +kernel, by decide +kernel⟩, List.mem_of_getElem? (i := 1171) (by decide +kernel), List.mem_of_getElem? (i := 1356) (by decide +kernel), List.mem_of_getElem? (i := 1357) (by decide +kernel)⟩
theorem lw_p47 : lw_okq (⟨"MovingStairModel", "begins", "()V"⟩, 44) := ⟨⟨by decide +kernel, by decide +kernel⟩, List.mem_of_getElem? (i := 1171) (by decide +kernel), List.mem_of_getElem? (i := 1360) (by decide +kernel), List.mem_of_getElem? (i := 1361) (by decide +kernel)⟩
def lw_privs_3 : List (MethodName × Nat) := [(⟨"MovingStair", "openCrowd", "(III)I"⟩, 14), (⟨"MovingStair", "crowdState", "(II)I"⟩, 14), (⟨"MovingStair", "openSides", "(III)I"⟩, 14), (⟨"MovingStair$Queue", "leastWait", "(IIIJJJ)J"⟩, 9), (⟨"MovingStair", "openTurning", "(II)I"⟩, 14), (⟨"MovingStair$Turning", "fillHour", "(III)V"⟩, 8), (⟨"MovingStair$Turning", "bestAfter", "(II)I"⟩, 8), (⟨"MovingStair$Turning", "priceOf", "(III)I"⟩, 8), (⟨"MovingStair$Turning", "choose", "()V"⟩, 8), (⟨"MovingStair", "openStream", "(III)I"⟩, 14), (⟨"MovingStair", "stillFrom", "(J)I"⟩, 14), (⟨"MovingStair", "heldSlots", "()I"⟩, 14), (⟨"MovingStairModel", "four", "(I)V"⟩, 44), (⟨"MovingStairModel", "clears0", "()V"⟩, 44), (⟨"MovingStairModel", "tells", "(II)V"⟩, 44), (⟨"MovingStairModel", "begins", "()V"⟩, 44)]
theorem lw_r3 : ∀ q ∈ lw_privs_3, lw_okq q := List.forall_mem_cons.mpr ⟨lw_p32, List.forall_mem_cons.mpr ⟨lw_p33, List.forall_mem_cons.mpr ⟨lw_p34, List.forall_mem_cons.mpr ⟨lw_p35, List.forall_mem_cons.mpr ⟨lw_p36, List.forall_mem_cons.mpr ⟨lw_p37, List.forall_mem_cons.mpr ⟨lw_p38, List.forall_mem_cons.mpr ⟨lw_p39, List.forall_mem_cons.mpr ⟨lw_p40, List.forall_mem_cons.mpr ⟨lw_p41, List.forall_mem_cons.mpr ⟨lw_p42, List.forall_mem_cons.mpr ⟨lw_p43, List.forall_mem_cons.mpr ⟨lw_p44, List.forall_mem_cons.mpr ⟨lw_p45, List.forall_mem_cons.mpr ⟨lw_p46, List.forall_mem_cons.mpr ⟨lw_p47, fun _ h => absurd h List.not_mem_nil⟩⟩⟩⟩⟩⟩⟩⟩⟩⟩⟩⟩⟩⟩⟩⟩
theorem lw_p48 : lw_okq (⟨"MovingStairModel", "next", "()V"⟩, 44) := ⟨⟨by decide +kernel, by decide +kernel⟩, List.mem_of_getElem? (i := 1171) (by decide +kernel), List.mem_of_getElem? (i := 1364) (by decide +kernel), List.mem_of_getElem? (i := 1365) (by decide +kernel)⟩
theorem lw_p49 : lw_okq (⟨"MovingStairModel", "isByte", "(III)Z"⟩, 44) := ⟨⟨by decide +kernel, by decide +kernel⟩, List.mem_of_getElem? (i := 1171) (by decide +kernel), List.mem_of_getElem? (i := 1368) (by decide +kernel), List.mem_of_getElem? (i := 1369) (by decide +kernel)⟩
theorem lw_p50 : lw_okq (⟨"MovingStairModel", "isGood", "()Z"⟩, 44) := ⟨⟨by decide +kernel, by decide +kernel⟩, List.mem_of_getElem? (i := 1171) (by decide +kernel), List.mem_of_getElem? (i := 1377) (by decide +kernel), List.mem_of_getElem? (i := 1378) (by decide +kernel)⟩
theorem lw_p51 : lw_okq (⟨"MovingStairModel", "asks", "(J)V"⟩, 44) := ⟨⟨by decide +kernel, by decide +kernel⟩, List.mem_of_getElem? (i := 1171) (by decide +kernel), List.mem_of_getElem? (i := 1382) (by decide +kernel), List.mem_of_getElem? (i := 1383) (by decide +kernel)⟩
theorem lw_p52 : lw_okq (⟨"MovingStairModel", "takes", "(J)Z"⟩, 44) := ⟨⟨by decide +kernel, by decide +kernel⟩, List.mem_of_getElem? (i := 1171) (by decide +kernel), List.mem_of_getElem? (i := 1386) (by decide +kernel), List.mem_of_getElem? (i := 1387) (by decide +kernel)⟩
theorem lw_p53 : lw_okq (⟨"MovingStairModel", "is", "(J)Z"⟩, 44) := ⟨⟨by decide +kernel, by decide +kernel⟩, List.mem_of_getElem? (i := 1171) (by decide +kernel), List.mem_of_getElem? (i := 1390) (by decide +kernel), List.mem_of_getElem? (i := 1391) (by decide +kernel)⟩
theorem lw_p54 : lw_okq (⟨"MovingStairModel", "fails", "(I)V"⟩, 44) := ⟨⟨by decide +kernel, by decide +kernel⟩, List.mem_of_getElem? (i := 1171) (by decide +kernel), List.mem_of_getElem? (i := 1394) (by decide +kernel), List.mem_of_getElem? (i := 1395) (by decide +kernel)⟩
theorem lw_p55 : lw_okq (⟨"MovingStairModel", "number", "(JII)I"⟩, 44) := ⟨⟨by decide +kernel, by decide +kernel⟩, List.mem_of_getElem? (i := 1171) (by decide +kernel), List.mem_of_getElem? (i := 1399) (by decide +kernel), List.mem_of_getElem? (i := 1400) (by decide +kernel)⟩
theorem lw_p56 : lw_okq (⟨"MovingStairModel", "number", "(II)I"⟩, 44) := ⟨⟨by decide +kernel, by decide +kernel⟩, List.mem_of_getElem? (i := 1171) (by decide +kernel), List.mem_of_getElem? (i := 1403) (by decide +kernel), List.mem_of_getElem? (i := 1404) (by decide +kernel)⟩
theorem lw_p57 : lw_okq (⟨"MovingStairModel", "line", "()V"⟩, 44) := ⟨⟨by decide +kernel, by decide +kernel⟩, List.mem_of_getElem? (i := 1171) (by decide +kernel), List.mem_of_getElem? (i := 1407) (by decide +kernel), List.mem_of_getElem? (i := 1408) (by decide +kernel)⟩
theorem lw_p58 : lw_okq (⟨"MovingStairModel", "isRoom", "(ZII)Z"⟩, 44) := ⟨⟨by decide +kernel, by decide +kernel⟩, List.mem_of_getElem? (i := 1171) (by decide +kernel), List.mem_of_getElem? (i := 1412) (by decide +kernel), List.mem_of_getElem? (i := 1413) (by decide +kernel)⟩
theorem lw_p59 : lw_okq (⟨"MovingStairModel", "hasRead", "(I)I"⟩, 44) := ⟨⟨by decide +kernel, by decide +kernel⟩, List.mem_of_getElem? (i := 1171) (by decide +kernel), List.mem_of_getElem? (i := 1416) (by decide +kernel), List.mem_of_getElem? (i := 1417) (by decide +kernel)⟩
theorem lw_p60 : lw_okq (⟨"MovingStairModel", "partLine", "()V"⟩, 44) := ⟨⟨by decide +kernel, by decide +kernel⟩, List.mem_of_getElem? (i := 1171) (by decide +kernel), List.mem_of_getElem? (i := 1420) (by decide +kernel), List.mem_of_getElem? (i := 1421) (by decide +kernel)⟩
theorem lw_p61 : lw_okq (⟨"MovingStairModel", "valueHere", "()I"⟩, 44) := ⟨⟨by decide +kernel, by decide +kernel⟩, List.mem_of_getElem? (i := 1171) (by decide +kernel), List.mem_of_getElem? (i := 1430) (by decide +kernel), List.mem_of_getElem? (i := 1431) (by decide +kernel)⟩
theorem lw_p62 : lw_okq (⟨"MovingStairModel", "ends", "()V"⟩, 44) := ⟨⟨by decide +kernel, by decide +kernel⟩, List.mem_of_getElem? (i := 1171) (by decide +kernel), List.mem_of_getElem? (i := 1438) (by decide +kernel), List.mem_of_getElem? (i := 1439) (by decide +kernel)⟩
theorem lw_p63 : lw_okq (⟨"MovingStairModel", "isOver", "()V"⟩, 44) := ⟨⟨by decide +kernel, by decide +kernel⟩, List.mem_of_getElem? (i := 1171) (by decide +kernel), List.mem_of_getElem? (i := 1442) (by decide +kernel), List.mem_of_getElem? (i := 1443) (by decide +kernel)⟩
def lw_privs_4 : List (MethodName × Nat) := [(⟨"MovingStairModel", "next", "()V"⟩, 44), (⟨"MovingStairModel", "isByte", "(III)Z"⟩, 44), (⟨"MovingStairModel", "isGood", "()Z"⟩, 44), (⟨"MovingStairModel", "asks", "(J)V"⟩, 44), (⟨"MovingStairModel", "takes", "(J)Z"⟩, 44), (⟨"MovingStairModel", "is", "(J)Z"⟩, 44), (⟨"MovingStairModel", "fails", "(I)V"⟩, 44), (⟨"MovingStairModel", "number", "(JII)I"⟩, 44), (⟨"MovingStairModel", "number", "(II)I"⟩, 44), (⟨"MovingStairModel", "line", "()V"⟩, 44), (⟨"MovingStairModel", "isRoom", "(ZII)Z"⟩, 44), (⟨"MovingStairModel", "hasRead", "(I)I"⟩, 44), (⟨"MovingStairModel", "partLine", "()V"⟩, 44), (⟨"MovingStairModel", "valueHere", "()I"⟩, 44), (⟨"MovingStairModel", "ends", "()V"⟩, 44), (⟨"MovingStairModel", "isOver", "()V"⟩, 44)]
theorem lw_r4 : ∀ q ∈ lw_privs_4, lw_okq q := List.forall_mem_cons.mpr ⟨lw_p48, List.forall_mem_cons.mpr ⟨lw_p49, List.forall_mem_cons.mpr ⟨lw_p50, List.forall_mem_cons.mpr ⟨lw_p51, List.forall_mem_cons.mpr ⟨lw_p52, List.forall_mem_cons.mpr ⟨lw_p53, List.forall_mem_cons.mpr ⟨lw_p54, List.forall_mem_cons.mpr ⟨lw_p55, List.forall_mem_cons.mpr ⟨lw_p56, List.forall_mem_cons.mpr ⟨lw_p57, List.forall_mem_cons.mpr ⟨lw_p58, List.forall_mem_cons.mpr ⟨lw_p59, List.forall_mem_cons.mpr ⟨lw_p60, List.forall_mem_cons.mpr ⟨lw_p61, List.forall_mem_cons.mpr ⟨lw_p62, List.forall_mem_cons.mpr ⟨lw_p63, fun _ h => absurd h List.not_mem_nil⟩⟩⟩⟩⟩⟩⟩⟩⟩⟩⟩⟩⟩⟩⟩⟩
theorem lw_p64 : lw_okq (⟨"MovingStairModel", "copyStair", "(II)V"⟩, 44) := ⟨⟨by decide +kernel, by decide +kernel⟩, List.mem_of_getElem? (i := 1171) (by decide +kernel), List.mem_of_getElem? (i := 1446) (by decide +kernel), List.mem_of_getElem? (i := 1447) (by decide +kernel)⟩
theorem lw_p65 : lw_okq (⟨"MovingStairModel", "isPart", "(I)Z"⟩, 44) := ⟨⟨by decide +kernel, by decide +kernel⟩, List.mem_of_getElem? (i := 1171) (by decide +kernel), List.mem_of_getElem? (i := 1457) (by decide +kernel), List.mem_of_getElem? (i := 1458) (by decide +kernel)⟩
theorem lw_p66 : lw_okq (⟨"MovingStairModel", "lays", "()V"⟩, 44) := ⟨⟨by decide +kernel, by decide +kernel⟩, List.mem_of_getElem? (i := 1171) (by decide +kernel), List.mem_of_getElem? (i := 1461) (by decide +kernel), List.mem_of_getElem? (i := 1462) (by decide +kernel)⟩
theorem lw_p67 : lw_okq (⟨"MovingStairModel", "stepsOf", "(I)I"⟩, 44) := ⟨⟨by decide +kernel, by decide +kernel⟩, List.mem_of_getElem? (i := 1171) (by decide +kernel), List.mem_of_getElem? (i := 1465) (by decide +kernel), List.mem_of_getElem? (i := 1466) (by decide +kernel)⟩
theorem lw_p68 : lw_okq (⟨"MovingStairModel", "isWalker", "(I)Z"⟩, 44) := ⟨⟨by decide +kernel, by decide +kernel⟩, List.mem_of_getElem? (i := 1171) (by decide +kernel), List.mem_of_getElem? (i := 1473) (by decide +kernel), List.mem_of_getElem? (i := 1474) (by decide +kernel)⟩
theorem lw_p69 : lw_okq (⟨"MovingStairModel", "isWay", "(II)Z"⟩, 44) := ⟨⟨by decide +kernel, by decide +kernel⟩, List.mem_of_getElem? (i := 1171) (by decide +kernel), List.mem_of_getElem? (i := 1481) (by decide +kernel), List.mem_of_getElem? (i := 1482) (by decide +kernel)⟩
theorem lw_p70 : lw_okq (⟨"MovingStairModel", "goes", "(II)Z"⟩, 44) := ⟨⟨by decide +kernel, by decide +kernel⟩, List.mem_of_getElem? (i := 1171) (by decide +kernel), List.mem_of_getElem? (i := 1489) (by decide +kernel), List.mem_of_getElem? (i := 1490) (by decide +kernel)⟩
theorem lw_p71 : lw_okq (⟨"MovingStairModel", "zero", "()V"⟩, 44) := ⟨⟨by decide +kernel, by decide +kernel⟩, List.mem_of_getElem? (i := 1171) (by decide +kernel), List.mem_of_getElem? (i := 1493) (by decide +kernel), List.mem_of_getElem? (i := 1494) (by decide +kernel)⟩
theorem lw_p72 : lw_okq (⟨"MovingStairModel", "adds", "(JJ)V"⟩, 44) := ⟨⟨by decide +kernel, by decide +kernel⟩, List.mem_of_getElem? (i := 1171) (by decide +kernel), List.mem_of_getElem? (i := 1497) (by decide +kernel), List.mem_of_getElem? (i := 1498) (by decide +kernel)⟩
theorem lw_p73 : lw_okq (⟨"MovingStairModel", "half", "(I)J"⟩, 44) := ⟨⟨by decide +kernel, by decide +kernel⟩, List.mem_of_getElem? (i := 1171) (by decide +kernel), List.mem_of_getElem? (i := 1504) (by decide +kernel), List.mem_of_getElem? (i := 1505) (by decide +kernel)⟩
theorem lw_p74 : lw_okq (⟨"MovingStairModel", "areSeconds", "(III)Z"⟩, 44) := ⟨⟨by decide +kernel, by decide +kernel⟩, List.mem_of_getElem? (i := 1171) (by decide +kernel), List.mem_of_getElem? (i := 1521) (by decide +kernel), List.mem_of_getElem? (i := 1522) (by decide +kernel)⟩
theorem lw_p75 : lw_okq (⟨"MovingStairModel", "comes", "(II)I"⟩, 44) := ⟨⟨by decide +kernel, by decide +kernel⟩, List.mem_of_getElem? (i := 1171) (by decide +kernel), List.mem_of_getElem? (i := 1525) (by decide +kernel), List.mem_of_getElem? (i := 1526) (by decide +kernel)⟩
theorem lw_p76 : lw_okq (⟨"MovingStairModel", "isStair", "()Z"⟩, 44) := ⟨⟨by decide +kernel, by decide +kernel⟩, List.mem_of_getElem? (i := 1171) (by decide +kernel), List.mem_of_getElem? (i := 1541) (by decide +kernel), List.mem_of_getElem? (i := 1542) (by decide +kernel)⟩
theorem lw_p77 : lw_okq (⟨"MovingStairModel", "keeps", "(I)V"⟩, 44) := ⟨⟨by decide +kernel, by decide +kernel⟩, List.mem_of_getElem? (i := 1171) (by decide +kernel), List.mem_of_getElem? (i := 1545) (by decide +kernel), List.mem_of_getElem? (i := 1546) (by decide +kernel)⟩
theorem lw_p78 : lw_okq (⟨"MovingStairModel", "isTurn", "(III)Z"⟩, 44) := ⟨⟨by decide +kernel, by decide +kernel⟩, List.mem_of_getElem? (i := 1171) (by decide +kernel), List.mem_of_getElem? (i := 1561) (by decide +kernel), List.mem_of_getElem? (i := 1562) (by decide +kernel)⟩
theorem lw_p79 : lw_okq (⟨"MovingStairModel", "laysTurns", "(IIIZ)V"⟩, 44) := ⟨⟨by decide +kernel, by decide +kernel⟩, List.mem_of_getElem? (i := 1171) (by decide +kernel), List.mem_of_getElem? (i := 1565) (by decide +kernel), List.mem_of_getElem? (i := 1566) (by decide +kernel)⟩
def lw_privs_5 : List (MethodName × Nat) := [(⟨"MovingStairModel", "copyStair", "(II)V"⟩, 44), (⟨"MovingStairModel", "isPart", "(I)Z"⟩, 44), (⟨"MovingStairModel", "lays", "()V"⟩, 44), (⟨"MovingStairModel", "stepsOf", "(I)I"⟩, 44), (⟨"MovingStairModel", "isWalker", "(I)Z"⟩, 44), (⟨"MovingStairModel", "isWay", "(II)Z"⟩, 44), (⟨"MovingStairModel", "goes", "(II)Z"⟩, 44), (⟨"MovingStairModel", "zero", "()V"⟩, 44), (⟨"MovingStairModel", "adds", "(JJ)V"⟩, 44), (⟨"MovingStairModel", "half", "(I)J"⟩, 44), (⟨"MovingStairModel", "areSeconds", "(III)Z"⟩, 44), (⟨"MovingStairModel", "comes", "(II)I"⟩, 44), (⟨"MovingStairModel", "isStair", "()Z"⟩, 44), (⟨"MovingStairModel", "keeps", "(I)V"⟩, 44), (⟨"MovingStairModel", "isTurn", "(III)Z"⟩, 44), (⟨"MovingStairModel", "laysTurns", "(IIIZ)V"⟩, 44)]
theorem lw_r5 : ∀ q ∈ lw_privs_5, lw_okq q := List.forall_mem_cons.mpr ⟨lw_p64, List.forall_mem_cons.mpr ⟨lw_p65, List.forall_mem_cons.mpr ⟨lw_p66, List.forall_mem_cons.mpr ⟨lw_p67, List.forall_mem_cons.mpr ⟨lw_p68, List.forall_mem_cons.mpr ⟨lw_p69, List.forall_mem_cons.mpr ⟨lw_p70, List.forall_mem_cons.mpr ⟨lw_p71, List.forall_mem_cons.mpr ⟨lw_p72, List.forall_mem_cons.mpr ⟨lw_p73, List.forall_mem_cons.mpr ⟨lw_p74, List.forall_mem_cons.mpr ⟨lw_p75, List.forall_mem_cons.mpr ⟨lw_p76, List.forall_mem_cons.mpr ⟨lw_p77, List.forall_mem_cons.mpr ⟨lw_p78, List.forall_mem_cons.mpr ⟨lw_p79, fun _ h => absurd h List.not_mem_nil⟩⟩⟩⟩⟩⟩⟩⟩⟩⟩⟩⟩⟩⟩⟩⟩
theorem lw_p80 : lw_okq (⟨"MovingStairModel", "turnsAt", "(IIIIZ)Z"⟩, 44) := ⟨⟨by decide +kernel, by decide +kernel⟩, List.mem_of_getElem? (i := 1171) (by decide +kernel), List.mem_of_getElem? (i := 1569) (by decide +kernel), List.mem_of_getElem? (i := 1570) (by decide +kernel)⟩
theorem lw_p81 : lw_okq (⟨"MovingStairModel", "isTrain", "(II)Z"⟩, 44) := ⟨⟨by decide +kernel, by decide +kernel⟩, List.mem_of_getElem? (i := 1171) (by decide +kernel), List.mem_of_getElem? (i := 1594) (by decide +kernel), List.mem_of_getElem? (i := 1595) (by decide +kernel)⟩
theorem lw_p82 : lw_okq (⟨"MovingStairModel", "whyNot", "(I)I"⟩, 44) := ⟨⟨by decide +kernel, by decide +kernel⟩, List.mem_of_getElem? (i := 1171) (by decide +kernel), List.mem_of_getElem? (i := 1619) (by decide +kernel), List.mem_of_getElem? (i := 1620) (by decide +kernel)⟩
theorem lw_p83 : lw_okq (⟨"MovingStairModel", "areFit", "(III)Z"⟩, 44) := ⟨⟨by decide +kernel, by decide +kernel⟩, List.mem_of_getElem? (i := 1171) (by decide +kernel), List.mem_of_getElem? (i := 1624) (by decide +kernel), List.mem_of_getElem? (i := 1625) (by decide +kernel)⟩
theorem lw_p84 : lw_okq (⟨"MovingStairModel", "rows", "(I)I"⟩, 44) := ⟨⟨by decide +kernel, by decide +kernel⟩, List.mem_of_getElem? (i := 1171) (by decide +kernel), List.mem_of_getElem? (i := 1628) (by decide +kernel), List.mem_of_getElem? (i := 1629) (by decide +kernel)⟩
theorem lw_p85 : lw_okq (⟨"MovingStairModel", "cellOf", "(III)J"⟩, 44) := ⟨⟨by decide +kernel, by decide +kernel⟩, List.mem_of_getElem? (i := 1171) (by decide +kernel), List.mem_of_getElem? (i := 1632) (by decide +kernel), List.mem_of_getElem? (i := 1633) (by decide +kernel)⟩
theorem lw_p86 : lw_okq (⟨"MovingStairModel", "isFit", "(IIIIJ)Z"⟩, 44) := ⟨⟨by decide +kernel, by decide +kernel⟩, List.mem_of_getElem? (i := 1171) (by decide +kernel), List.mem_of_getElem? (i := 1636) (by decide +kernel), List.mem_of_getElem? (i := 1637) (by decide +kernel)⟩
theorem lw_p87 : lw_okq (⟨"MovingStairModel", "wrongOf", "(I)I"⟩, 44) := ⟨⟨by decide +kernel, by decide +kernel⟩, List.mem_of_getElem? (i := 1171) (by decide +kernel), List.mem_of_getElem? (i := 1652) (by decide +kernel), List.mem_of_getElem? (i := 1653) (by decide +kernel)⟩
theorem lw_p88 : lw_okq (⟨"MovingStairModel", "wrongBy", "(III)I"⟩, 44) := ⟨⟨by decide +kernel, by decide +kernel⟩, List.mem_of_getElem? (i := 1171) (by decide +kernel), List.mem_of_getElem? (i := 1657) (by decide +kernel), List.mem_of_getElem? (i := 1658) (by decide +kernel)⟩
theorem lw_p89 : lw_okq (⟨"MovingStairModel", "whyNotTen", "(I)I"⟩, 44) := ⟨⟨by decide +kernel, by decide +kernel⟩, List.mem_of_getElem? (i := 1171) (by decide +kernel), List.mem_of_getElem? (i := 1665) (by decide +kernel), List.mem_of_getElem? (i := 1666) (by decide +kernel)⟩
theorem lw_p90 : lw_okq (⟨"MovingStairModel", "laysAsk", "(I)V"⟩, 44) := ⟨⟨by decide +kernel, by decide +kernel⟩, List.mem_of_getElem? (i := 1171) (by decide +kernel), List.mem_of_getElem? (i := 1677) (by decide +kernel), List.mem_of_getElem? (i := 1678) (by decide +kernel)⟩
theorem lw_p91 : lw_okq (⟨"MovingStairModel", "whyNotExact", "(II)I"⟩, 44) := ⟨⟨by decide +kernel, by decide +kernel⟩, List.mem_of_getElem? (i := 1171) (by decide +kernel), List.mem_of_getElem? (i := 1689) (by decide +kernel), List.mem_of_getElem? (i := 1690) (by decide +kernel)⟩
theorem lw_p92 : lw_okq (⟨"MovingStairModel", "isExact", "(I)Z"⟩, 44) := ⟨⟨by decide +kernel, by decide +kernel⟩, List.mem_of_getElem? (i := 1171) (by decide +kernel), List.mem_of_getElem? (i := 1693) (by decide +kernel), List.mem_of_getElem? (i := 1694) (by decide +kernel)⟩
theorem lw_p93 : lw_okq (⟨"MovingStairModel", "areSides", "(I)Z"⟩, 44) := ⟨⟨by decide +kernel, by decide +kernel⟩, List.mem_of_getElem? (i := 1171) (by decide +kernel), List.mem_of_getElem? (i := 1705) (by decide +kernel), List.mem_of_getElem? (i := 1706) (by decide +kernel)⟩
theorem lw_p94 : lw_okq (⟨"MovingStairModel", "flows", "(III)V"⟩, 44) := ⟨⟨by decide +kernel, by decide +kernel⟩, List.mem_of_getElem? (i := 1171) (by decide +kernel), List.mem_of_getElem? (i := 1709) (by decide +kernel), List.mem_of_getElem? (i := 1710) (by decide +kernel)⟩
theorem lw_p95 : lw_okq (⟨"MovingStairModel", "moreBy", "(II)I"⟩, 44) := ⟨⟨by decide +kernel, by decide +kernel⟩, List.mem_of_getElem? (i := 1171) (by decide +kernel), List.mem_of_getElem? (i := 1723) (by decide +kernel), List.mem_of_getElem? (i := 1724) (by decide +kernel)⟩
def lw_privs_6 : List (MethodName × Nat) := [(⟨"MovingStairModel", "turnsAt", "(IIIIZ)Z"⟩, 44), (⟨"MovingStairModel", "isTrain", "(II)Z"⟩, 44), (⟨"MovingStairModel", "whyNot", "(I)I"⟩, 44), (⟨"MovingStairModel", "areFit", "(III)Z"⟩, 44), (⟨"MovingStairModel", "rows", "(I)I"⟩, 44), (⟨"MovingStairModel", "cellOf", "(III)J"⟩, 44), (⟨"MovingStairModel", "isFit", "(IIIIJ)Z"⟩, 44), (⟨"MovingStairModel", "wrongOf", "(I)I"⟩, 44), (⟨"MovingStairModel", "wrongBy", "(III)I"⟩, 44), (⟨"MovingStairModel", "whyNotTen", "(I)I"⟩, 44), (⟨"MovingStairModel", "laysAsk", "(I)V"⟩, 44), (⟨"MovingStairModel", "whyNotExact", "(II)I"⟩, 44), (⟨"MovingStairModel", "isExact", "(I)Z"⟩, 44), (⟨"MovingStairModel", "areSides", "(I)Z"⟩, 44), (⟨"MovingStairModel", "flows", "(III)V"⟩, 44), (⟨"MovingStairModel", "moreBy", "(II)I"⟩, 44)]
theorem lw_r6 : ∀ q ∈ lw_privs_6, lw_okq q := List.forall_mem_cons.mpr ⟨lw_p80, List.forall_mem_cons.mpr ⟨lw_p81, List.forall_mem_cons.mpr ⟨lw_p82, List.forall_mem_cons.mpr ⟨lw_p83, List.forall_mem_cons.mpr ⟨lw_p84, List.forall_mem_cons.mpr ⟨lw_p85, List.forall_mem_cons.mpr ⟨lw_p86, List.forall_mem_cons.mpr ⟨lw_p87, List.forall_mem_cons.mpr ⟨lw_p88, List.forall_mem_cons.mpr ⟨lw_p89, List.forall_mem_cons.mpr ⟨lw_p90, List.forall_mem_cons.mpr ⟨lw_p91, List.forall_mem_cons.mpr ⟨lw_p92, List.forall_mem_cons.mpr ⟨lw_p93, List.forall_mem_cons.mpr ⟨lw_p94, List.forall_mem_cons.mpr ⟨lw_p95, fun _ h => absurd h List.not_mem_nil⟩⟩⟩⟩⟩⟩⟩⟩⟩⟩⟩⟩⟩⟩⟩⟩
theorem lw_p96 : lw_okq (⟨"MovingStairModel", "whyNotCrowd", "(III)I"⟩, 44) := ⟨⟨by decide +kernel, by decide +kernel⟩, List.mem_of_getElem? (i := 1171) (by decide +kernel), List.mem_of_getElem? (i := 1735) (by decide +kernel), List.mem_of_getElem? (i := 1736) (by decide +kernel)⟩
theorem lw_p97 : lw_okq (⟨"MovingStairModel", "flowOf", "(II)J"⟩, 44) := ⟨⟨by decide +kernel, by decide +kernel⟩, List.mem_of_getElem? (i := 1171) (by decide +kernel), List.mem_of_getElem? (i := 1740) (by decide +kernel), List.mem_of_getElem? (i := 1741) (by decide +kernel)⟩
theorem lw_p98 : lw_okq (⟨"MovingStairModel", "waits", "(IJ)J"⟩, 44) := ⟨⟨by decide +kernel, by decide +kernel⟩, List.mem_of_getElem? (i := 1171) (by decide +kernel), List.mem_of_getElem? (i := 1744) (by decide +kernel), List.mem_of_getElem? (i := 1745) (by decide +kernel)⟩
theorem lw_p99 : lw_okq (⟨"MovingStairModel", "whyNotSides", "(III)I"⟩, 44) := ⟨⟨by decide +kernel, by decide +kernel⟩, List.mem_of_getElem? (i := 1171) (by decide +kernel), List.mem_of_getElem? (i := 1756) (by decide +kernel), List.mem_of_getElem? (i := 1757) (by decide +kernel)⟩
theorem lw_p100 : lw_okq (⟨"MovingStairModel", "sidesOf", "(IIII)J"⟩, 44) := ⟨⟨by decide +kernel, by decide +kernel⟩, List.mem_of_getElem? (i := 1171) (by decide +kernel), List.mem_of_getElem? (i := 1760) (by decide +kernel), List.mem_of_getElem? (i := 1761) (by decide +kernel)⟩
theorem lw_p101 : lw_okq (⟨"MovingStairModel", "tries", "(IIIIJJ)V"⟩, 44) := ⟨⟨by decide +kernel, by decide +kernel⟩, List.mem_of_getElem? (i := 1171) (by decide +kernel), List.mem_of_getElem? (i := 1765) (by decide +kernel), List.mem_of_getElem? (i := 1766) (by decide +kernel)⟩
theorem lw_p102 : lw_okq (⟨"MovingStairModel", "whyNotTurn", "(II)I"⟩, 44) := ⟨⟨by decide +kernel, by decide +kernel⟩, List.mem_of_getElem? (i := 1171) (by decide +kernel), List.mem_of_getElem? (i := 1777) (by decide +kernel), List.mem_of_getElem? (i := 1778) (by decide +kernel)⟩
theorem lw_p103 : lw_okq (⟨"MovingStairModel", "laysTurn", "(II)V"⟩, 44) := ⟨⟨by decide +kernel, by decide +kernel⟩, List.mem_of_getElem? (i := 1171) (by decide +kernel), List.mem_of_getElem? (i := 1781) (by decide +kernel), List.mem_of_getElem? (i := 1782) (by decide +kernel)⟩
theorem lw_p104 : lw_okq (⟨"MovingStairModel", "hours", "(I)I"⟩, 44) := ⟨⟨by decide +kernel, by decide +kernel⟩, List.mem_of_getElem? (i := 1171) (by decide +kernel), List.mem_of_getElem? (i := 1785) (by decide +kernel), List.mem_of_getElem? (i := 1786) (by decide +kernel)⟩
theorem lw_p105 : lw_okq (⟨"MovingStairModel", "onBy", "(IIIII)I"⟩, 44) := ⟨⟨by decide +kernel, by decide +kernel⟩, List.mem_of_getElem? (i := 1171) (by decide +kernel), List.mem_of_getElem? (i := 1789) (by decide +kernel), List.mem_of_getElem? (i := 1790) (by decide +kernel)⟩
theorem lw_p106 : lw_okq (⟨"MovingStairModel", "leftBy", "(III)I"⟩, 44) := ⟨⟨by decide +kernel, by decide +kernel⟩, List.mem_of_getElem? (i := 1171) (by decide +kernel), List.mem_of_getElem? (i := 1796) (by decide +kernel), List.mem_of_getElem? (i := 1797) (by decide +kernel)⟩
theorem lw_p107 : lw_okq (⟨"MovingStairModel", "turnOf", "(I)I"⟩, 44) := ⟨⟨by decide +kernel, by decide +kernel⟩, List.mem_of_getElem? (i := 1171) (by decide +kernel), List.mem_of_getElem? (i := 1803) (by decide +kernel), List.mem_of_getElem? (i := 1804) (by decide +kernel)⟩
theorem lw_p108 : lw_okq (⟨"MovingStairModel", "turnedIn", "(III)I"⟩, 44) := ⟨⟨by decide +kernel, by decide +kernel⟩, List.mem_of_getElem? (i := 1171) (by decide +kernel), List.mem_of_getElem? (i := 1811) (by decide +kernel), List.mem_of_getElem? (i := 1812) (by decide +kernel)⟩
theorem lw_p109 : lw_okq (⟨"MovingStairModel", "isFull", "()Z"⟩, 44) := ⟨⟨by decide +kernel, by decide +kernel⟩, List.mem_of_getElem? (i := 1171) (by decide +kernel), List.mem_of_getElem? (i := 1840) (by decide +kernel), List.mem_of_getElem? (i := 1841) (by decide +kernel)⟩
theorem lw_p110 : lw_okq (⟨"MovingStairModel", "acts", "(II)V"⟩, 44) := ⟨⟨by decide +kernel, by decide +kernel⟩, List.mem_of_getElem? (i := 1171) (by decide +kernel), List.mem_of_getElem? (i := 1844) (by decide +kernel), List.mem_of_getElem? (i := 1845) (by decide +kernel)⟩
theorem lw_p111 : lw_okq (⟨"MovingStairModel", "isDraw", "(I)Z"⟩, 44) := ⟨⟨by decide +kernel, by decide +kernel⟩, List.mem_of_getElem? (i := 1171) (by decide +kernel), List.mem_of_getElem? (i := 1864) (by decide +kernel), List.mem_of_getElem? (i := 1865) (by decide +kernel)⟩
def lw_privs_7 : List (MethodName × Nat) := [(⟨"MovingStairModel", "whyNotCrowd", "(III)I"⟩, 44), (⟨"MovingStairModel", "flowOf", "(II)J"⟩, 44), (⟨"MovingStairModel", "waits", "(IJ)J"⟩, 44), (⟨"MovingStairModel", "whyNotSides", "(III)I"⟩, 44), (⟨"MovingStairModel", "sidesOf", "(IIII)J"⟩, 44), (⟨"MovingStairModel", "tries", "(IIIIJJ)V"⟩, 44), (⟨"MovingStairModel", "whyNotTurn", "(II)I"⟩, 44), (⟨"MovingStairModel", "laysTurn", "(II)V"⟩, 44), (⟨"MovingStairModel", "hours", "(I)I"⟩, 44), (⟨"MovingStairModel", "onBy", "(IIIII)I"⟩, 44), (⟨"MovingStairModel", "leftBy", "(III)I"⟩, 44), (⟨"MovingStairModel", "turnOf", "(I)I"⟩, 44), (⟨"MovingStairModel", "turnedIn", "(III)I"⟩, 44), (⟨"MovingStairModel", "isFull", "()Z"⟩, 44), (⟨"MovingStairModel", "acts", "(II)V"⟩, 44), (⟨"MovingStairModel", "isDraw", "(I)Z"⟩, 44)]
theorem lw_r7 : ∀ q ∈ lw_privs_7, lw_okq q := List.forall_mem_cons.mpr ⟨lw_p96, List.forall_mem_cons.mpr ⟨lw_p97, List.forall_mem_cons.mpr ⟨lw_p98, List.forall_mem_cons.mpr ⟨lw_p99, List.forall_mem_cons.mpr ⟨lw_p100, List.forall_mem_cons.mpr ⟨lw_p101, List.forall_mem_cons.mpr ⟨lw_p102, List.forall_mem_cons.mpr ⟨lw_p103, List.forall_mem_cons.mpr ⟨lw_p104, List.forall_mem_cons.mpr ⟨lw_p105, List.forall_mem_cons.mpr ⟨lw_p106, List.forall_mem_cons.mpr ⟨lw_p107, List.forall_mem_cons.mpr ⟨lw_p108, List.forall_mem_cons.mpr ⟨lw_p109, List.forall_mem_cons.mpr ⟨lw_p110, List.forall_mem_cons.mpr ⟨lw_p111, fun _ h => absurd h List.not_mem_nil⟩⟩⟩⟩⟩⟩⟩⟩⟩⟩⟩⟩⟩⟩⟩⟩
theorem lw_p112 : lw_okq (⟨"MovingStairModel", "drawnOf", "(J)I"⟩, 44) := ⟨⟨by decide +kernel, by decide +kernel⟩, List.mem_of_getElem? (i := 1171) (by decide +kernel), List.mem_of_getElem? (i := 1869) (by decide +kernel), List.mem_of_getElem? (i := 1870) (by decide +kernel)⟩
def lw_privs_8 : List (MethodName × Nat) := [(⟨"MovingStairModel", "drawnOf", "(J)I"⟩, 44)]
theorem lw_r8 : ∀ q ∈ lw_privs_8, lw_okq q := List.forall_mem_cons.mpr ⟨lw_p112, fun _ h => absurd h List.not_mem_nil⟩
def lw_privs : List (MethodName × Nat) := lw_privs_1 ++ (lw_privs_2 ++ (lw_privs_3 ++ (lw_privs_4 ++ (lw_privs_5 ++ (lw_privs_6 ++ (lw_privs_7 ++ (lw_privs_8)))))))
def lw_tbl : List Cond := k2_sels lw_privs ++ tables_1
theorem lw_privs_ok : ∀ q ∈ lw_privs, lw_okq q := by
  show ∀ q ∈ lw_privs_1 ++ (lw_privs_2 ++ (lw_privs_3 ++ (lw_privs_4 ++ (lw_privs_5 ++ (lw_privs_6 ++ (lw_privs_7 ++ (lw_privs_8))))))), lw_okq q
  exact List.forall_mem_append.mpr ⟨lw_r1, List.forall_mem_append.mpr ⟨lw_r2, List.forall_mem_append.mpr ⟨lw_r3, List.forall_mem_append.mpr ⟨lw_r4, List.forall_mem_append.mpr ⟨lw_r5, List.forall_mem_append.mpr ⟨lw_r6, List.forall_mem_append.mpr ⟨lw_r7, lw_r8⟩⟩⟩⟩⟩⟩⟩
-- ===== end of PART A; then your names; then what follows =====
def RX0 : String := "MovingStair$Counts"
def TX0 : u_T := fun k => match k with
  | 0 => ("MovingStair$Counts", "size", "I", false)
  | 1 => ("MovingStair$Counts", "firstSteps", "I", false)
  | 2 => ("MovingStair$Counts", "firstSpeed", "I", false)
  | 3 => ("MovingStair$Counts", "askedPace", "I", false)
  | 4 => ("MovingStair$Counts", "leftAtWorst", "I", false)
  | 5 => ("MovingStair$Counts", "paces", "[I", true)
  | 6 => ("MovingStair$Counts", "ways", "[I", true)
  | 7 => ("MovingStair$Counts", "counted", "[I", true)
  | 8 => ("MovingStair$Counts", "leasts", "[I", true)
  | 9 => ("MovingStair$Counts", "mosts", "[I", true)
  | 10 => ("MovingStair$Counts", "withIt", "[I", true)
  | 11 => ("MovingStair$Counts", "againstIt", "[I", true)
  | 12 => ("MovingStair$Counts", "tally", "[I", true)
  | 13 => ("MovingStair$Counts", "possible", "[I", true)
  | 14 => ("MovingStair$Counts", "least", "I", false)
  | _ => ("MovingStair$Counts", "most", "I", false)
def tyX0 : Nat → FieldType := fun k => match k with
  | 0 => .int
  | 1 => .int
  | 2 => .int
  | 3 => .int
  | 4 => .int
  | 5 => .array .int
  | 6 => .array .int
  | 7 => .array .int
  | 8 => .array .int
  | 9 => .array .int
  | 10 => .array .int
  | 11 => .array .int
  | 12 => .array .int
  | 13 => .array .int
  | 14 => .int
  | _ => .int
abbrev wsX00 : List Cond := u_ws RX0 TX0 16
theorem nmX0 : ∀ a, a < 16 → ∀ b, b < 16 → a ≠ b → (TX0 a).2.1 ≠ (TX0 b).2.1 := by decide +kernel
theorem tyX0_ok : ∀ k, k < 16 → parseFieldDescriptor (TX0 k).2.2.1 = some (tyX0 k) := by decide +kernel
abbrev cX0_init : ByteArray := prog_2_method_1_code
def yX0_init : MethodName := ⟨RX0, "<init>", "()V"⟩
abbrev cX0_load : ByteArray := prog_2_method_2_code
def yX0_load : MethodName := ⟨RX0, "load", "(LMovingStair$Slot;)Z"⟩
abbrev cX0_findEnds : ByteArray := prog_2_method_3_code
def yX0_findEnds : MethodName := ⟨RX0, "findEnds", "()V"⟩
abbrev cX0_findOne : ByteArray := prog_2_method_4_code
def yX0_findOne : MethodName := ⟨RX0, "findOne", "(III)V"⟩
abbrev cX0_pairs : ByteArray := prog_2_method_5_code
def yX0_pairs : MethodName := ⟨RX0, "pairs", "()I"⟩
abbrev cX0_findFirst : ByteArray := prog_2_method_6_code
def yX0_findFirst : MethodName := ⟨RX0, "findFirst", "()V"⟩
abbrev cX0_unlikeSteps : ByteArray := prog_2_method_7_code
def yX0_unlikeSteps : MethodName := ⟨RX0, "unlikeSteps", "()I"⟩
abbrev cX0_unlikeSpeeds : ByteArray := prog_2_method_8_code
def yX0_unlikeSpeeds : MethodName := ⟨RX0, "unlikeSpeeds", "()I"⟩
abbrev cX0_fewestWrong : ByteArray := prog_2_method_9_code
def yX0_fewestWrong : MethodName := ⟨RX0, "fewestWrong", "()I"⟩
abbrev cX0_fewer : ByteArray := prog_2_method_10_code
def yX0_fewer : MethodName := ⟨RX0, "fewer", "(II)I"⟩
abbrev cX0_markFitting : ByteArray := prog_2_method_11_code
def yX0_markFitting : MethodName := ⟨RX0, "markFitting", "([IIII)V"⟩
abbrev cX0_possibleWays : ByteArray := prog_2_method_12_code
def yX0_possibleWays : MethodName := ⟨RX0, "possibleWays", "()I"⟩
abbrev cX0_markWays : ByteArray := prog_2_method_13_code
def yX0_markWays : MethodName := ⟨RX0, "markWays", "(II)I"⟩
abbrev cX0_findQuestion : ByteArray := prog_2_method_14_code
def yX0_findQuestion : MethodName := ⟨RX0, "findQuestion", "()V"⟩
abbrev cX0_worstAfter : ByteArray := prog_2_method_15_code
def yX0_worstAfter : MethodName := ⟨RX0, "worstAfter", "(II)I"⟩
abbrev cX0_solveSteps : ByteArray := prog_2_method_16_code
def yX0_solveSteps : MethodName := ⟨RX0, "solveSteps", "(LMovingStair$Fraction;)Z"⟩
abbrev cX0_solveSpeed : ByteArray := prog_2_method_17_code
def yX0_solveSpeed : MethodName := ⟨RX0, "solveSpeed", "(LMovingStair$Fraction;)Z"⟩
abbrev cX0_divisor : ByteArray := prog_2_method_18_code
def yX0_divisor : MethodName := ⟨RX0, "divisor", "()J"⟩
def RX1 : String := "MovingStair$Fraction"
def TX1 : u_T := fun k => match k with
  | 0 => ("MovingStair$Fraction", "above", "J", false)
  | _ => ("MovingStair$Fraction", "below", "J", false)
def tyX1 : Nat → FieldType := fun k => match k with
  | 0 => .long
  | _ => .long
abbrev wsX10 : List Cond := u_ws RX1 TX1 2
theorem nmX1 : ∀ a, a < 2 → ∀ b, b < 2 → a ≠ b → (TX1 a).2.1 ≠ (TX1 b).2.1 := by decide +kernel
theorem tyX1_ok : ∀ k, k < 2 → parseFieldDescriptor (TX1 k).2.2.1 = some (tyX1 k) := by decide +kernel
abbrev cX1_init : ByteArray := prog_3_method_1_code
def yX1_init : MethodName := ⟨RX1, "<init>", "()V"⟩
abbrev cX1_put : ByteArray := prog_3_method_2_code
def yX1_put : MethodName := ⟨RX1, "put", "(JJ)V"⟩
abbrev cX1_take : ByteArray := prog_3_method_3_code
def yX1_take : MethodName := ⟨RX1, "take", "(LMovingStair$Fraction;)V"⟩
abbrev cX1_add : ByteArray := prog_3_method_4_code
def yX1_add : MethodName := ⟨RX1, "add", "(JJ)V"⟩
abbrev cX1_against : ByteArray := prog_3_method_5_code
def yX1_against : MethodName := ⟨RX1, "against", "(LMovingStair$Fraction;)I"⟩
abbrev cX1_isAbove : ByteArray := prog_3_method_6_code
def yX1_isAbove : MethodName := ⟨RX1, "isAbove", "(J)Z"⟩
abbrev cX1_whole : ByteArray := prog_3_method_7_code
def yX1_whole : MethodName := ⟨RX1, "whole", "()J"⟩
abbrev cX1_wholeOf : ByteArray := prog_3_method_8_code
def yX1_wholeOf : MethodName := ⟨RX1, "wholeOf", "(J)J"⟩
abbrev cX1_side : ByteArray := prog_3_method_9_code
def yX1_side : MethodName := ⟨RX1, "side", "(I)J"⟩
def RX2 : String := "MovingStair$Layout"
def TX2 : u_T := fun k => match k with
  | 0 => ("MovingStair$Layout", "lines", "I", false)
  | 1 => ("MovingStair$Layout", "odds", "I", false)
  | 2 => ("MovingStair$Layout", "parts", "I", false)
  | 3 => ("MovingStair$Layout", "steps", "[I", true)
  | 4 => ("MovingStair$Layout", "speeds", "[I", true)
  | 5 => ("MovingStair$Layout", "walkers", "I", false)
  | 6 => ("MovingStair$Layout", "paces", "[I", true)
  | 7 => ("MovingStair$Layout", "bands", "I", false)
  | 8 => ("MovingStair$Layout", "carried", "[I", true)
  | 9 => ("MovingStair$Layout", "sided", "Z", false)
  | 10 => ("MovingStair$Layout", "sideStand", "I", false)
  | 11 => ("MovingStair$Layout", "sideWalk", "I", false)
  | 12 => ("MovingStair$Layout", "sidePace", "I", false)
  | 13 => ("MovingStair$Layout", "sideWould", "I", false)
  | 14 => ("MovingStair$Layout", "acts", "I", false)
  | 15 => ("MovingStair$Layout", "actParts", "[I", true)
  | _ => ("MovingStair$Layout", "actSpeeds", "[I", true)
def tyX2 : Nat → FieldType := fun k => match k with
  | 0 => .int
  | 1 => .int
  | 2 => .int
  | 3 => .array .int
  | 4 => .array .int
  | 5 => .int
  | 6 => .array .int
  | 7 => .int
  | 8 => .array .int
  | 9 => .boolean
  | 10 => .int
  | 11 => .int
  | 12 => .int
  | 13 => .int
  | 14 => .int
  | 15 => .array .int
  | _ => .array .int
abbrev wsX20 : List Cond := u_ws RX2 TX2 17
theorem nmX2 : ∀ a, a < 17 → ∀ b, b < 17 → a ≠ b → (TX2 a).2.1 ≠ (TX2 b).2.1 := by decide +kernel
theorem tyX2_ok : ∀ k, k < 17 → parseFieldDescriptor (TX2 k).2.2.1 = some (tyX2 k) := by decide +kernel
abbrev cX2_init : ByteArray := prog_4_method_1_code
def yX2_init : MethodName := ⟨RX2, "<init>", "()V"⟩
abbrev cX2_clear : ByteArray := prog_4_method_2_code
def yX2_clear : MethodName := ⟨RX2, "clear", "()V"⟩
abbrev cX2_copyFrom : ByteArray := prog_4_method_3_code
def yX2_copyFrom : MethodName := ⟨RX2, "copyFrom", "(LMovingStair$Layout;)V"⟩
abbrev cX2_isThere : ByteArray := prog_4_method_4_code
def yX2_isThere : MethodName := ⟨RX2, "isThere", "()Z"⟩
abbrev cX2_hasPart : ByteArray := prog_4_method_5_code
def yX2_hasPart : MethodName := ⟨RX2, "hasPart", "(I)Z"⟩
abbrev cX2_hasWalker : ByteArray := prog_4_method_6_code
def yX2_hasWalker : MethodName := ⟨RX2, "hasWalker", "(I)Z"⟩
abbrev cX2_allSteps : ByteArray := prog_4_method_7_code
def yX2_allSteps : MethodName := ⟨RX2, "allSteps", "()I"⟩
abbrev cX2_stepsAhead : ByteArray := prog_4_method_8_code
def yX2_stepsAhead : MethodName := ⟨RX2, "stepsAhead", "(I)I"⟩
abbrev cX2_turnRound : ByteArray := prog_4_method_9_code
def yX2_turnRound : MethodName := ⟨RX2, "turnRound", "()V"⟩
abbrev cX2_noteAct : ByteArray := prog_4_method_10_code
def yX2_noteAct : MethodName := ⟨RX2, "noteAct", "(II)V"⟩
abbrev cX2_takeBackAct : ByteArray := prog_4_method_11_code
def yX2_takeBackAct : MethodName := ⟨RX2, "takeBackAct", "()V"⟩
abbrev cX2_putStanding : ByteArray := prog_4_method_12_code
def yX2_putStanding : MethodName := ⟨RX2, "putStanding", "(ILMovingStair$Fraction;)V"⟩
abbrev cX2_putWalking : ByteArray := prog_4_method_13_code
def yX2_putWalking : MethodName := ⟨RX2, "putWalking", "(IILMovingStair$Fraction;)V"⟩
def RX3 : String := "MovingStair$Queue"
def TX3 : u_T := fun k => match k with
  | 0 => ("MovingStair$Queue", "endless", "Z", false)
  | 1 => ("MovingStair$Queue", "waited", "J", false)
  | 2 => ("MovingStair$Queue", "cleared", "I", false)
  | 3 => ("MovingStair$Queue", "leastFromStanding", "J", false)
  | 4 => ("MovingStair$Queue", "leastOfAll", "J", false)
  | 5 => ("MovingStair$Queue", "minutes", "I", false)
  | 6 => ("MovingStair$Queue", "standing", "J", false)
  | 7 => ("MovingStair$Queue", "walking", "[J", true)
  | _ => ("MovingStair$Queue", "coming", "[J", true)
def tyX3 : Nat → FieldType := fun k => match k with
  | 0 => .boolean
  | 1 => .long
  | 2 => .int
  | 3 => .long
  | 4 => .long
  | 5 => .int
  | 6 => .long
  | 7 => .array .long
  | _ => .array .long
abbrev wsX30 : List Cond := u_ws RX3 TX3 9
theorem nmX3 : ∀ a, a < 9 → ∀ b, b < 9 → a ≠ b → (TX3 a).2.1 ≠ (TX3 b).2.1 := by decide +kernel
theorem tyX3_ok : ∀ k, k < 9 → parseFieldDescriptor (TX3 k).2.2.1 = some (tyX3 k) := by decide +kernel
abbrev cX3_init : ByteArray := prog_5_method_1_code
def yX3_init : MethodName := ⟨RX3, "<init>", "()V"⟩
abbrev cX3_pass : ByteArray := prog_5_method_2_code
def yX3_pass : MethodName := ⟨RX3, "pass", "(LMovingStair$Slot;J)V"⟩
abbrev cX3_changeLaws : ByteArray := prog_5_method_3_code
def yX3_changeLaws : MethodName := ⟨RX3, "changeLaws", "(LMovingStair$Slot;LMovingStair$Layout;IILMovingStair$Fraction;)V"⟩
abbrev cX3_leastWait : ByteArray := prog_5_method_4_code
def yX3_leastWait : MethodName := ⟨RX3, "leastWait", "(IIIJJJ)J"⟩
def RX4 : String := "MovingStair$Reader"
def TX4 : u_T := fun k => match k with
  | 0 => ("MovingStair$Reader", "fault", "I", false)
  | 1 => ("MovingStair$Reader", "place", "I", false)
  | 2 => ("MovingStair$Reader", "tape", "[B", true)
  | 3 => ("MovingStair$Reader", "fresh", "LMovingStair$Layout;", true)
  | 4 => ("MovingStair$Reader", "length", "I", false)
  | 5 => ("MovingStair$Reader", "kind", "I", false)
  | 6 => ("MovingStair$Reader", "from", "I", false)
  | _ => ("MovingStair$Reader", "until", "I", false)
def tyX4 : Nat → FieldType := fun k => match k with
  | 0 => .int
  | 1 => .int
  | 2 => .array .byte
  | 3 => .object "MovingStair$Layout"
  | 4 => .int
  | 5 => .int
  | 6 => .int
  | _ => .int
abbrev wsX40 : List Cond := u_ws RX4 TX4 8
theorem nmX4 : ∀ a, a < 8 → ∀ b, b < 8 → a ≠ b → (TX4 a).2.1 ≠ (TX4 b).2.1 := by decide +kernel
theorem tyX4_ok : ∀ k, k < 8 → parseFieldDescriptor (TX4 k).2.2.1 = some (tyX4 k) := by decide +kernel
abbrev cX4_init : ByteArray := prog_6_method_1_code
def yX4_init : MethodName := ⟨RX4, "<init>", "()V"⟩
abbrev cX4_read : ByteArray := prog_6_method_2_code
def yX4_read : MethodName := ⟨RX4, "read", "(I)V"⟩
abbrev cX4_readLine : ByteArray := prog_6_method_3_code
def yX4_readLine : MethodName := ⟨RX4, "readLine", "()V"⟩
abbrev cX4_readHead : ByteArray := prog_6_method_4_code
def yX4_readHead : MethodName := ⟨RX4, "readHead", "()V"⟩
abbrev cX4_readPart : ByteArray := prog_6_method_5_code
def yX4_readPart : MethodName := ⟨RX4, "readPart", "()V"⟩
abbrev cX4_readWalker : ByteArray := prog_6_method_6_code
def yX4_readWalker : MethodName := ⟨RX4, "readWalker", "()V"⟩
abbrev cX4_readSides : ByteArray := prog_6_method_7_code
def yX4_readSides : MethodName := ⟨RX4, "readSides", "()V"⟩
abbrev cX4_readBand : ByteArray := prog_6_method_8_code
def yX4_readBand : MethodName := ⟨RX4, "readBand", "()V"⟩
abbrev cX4_namedNumber : ByteArray := prog_6_method_9_code
def yX4_namedNumber : MethodName := ⟨RX4, "namedNumber", "(Ljava/lang/String;II)I"⟩
abbrev cX4_expectWord : ByteArray := prog_6_method_10_code
def yX4_expectWord : MethodName := ⟨RX4, "expectWord", "(Ljava/lang/String;)V"⟩
abbrev cX4_boundedNumber : ByteArray := prog_6_method_11_code
def yX4_boundedNumber : MethodName := ⟨RX4, "boundedNumber", "(II)I"⟩
abbrev cX4_refuse : ByteArray := prog_6_method_12_code
def yX4_refuse : MethodName := ⟨RX4, "refuse", "(I)V"⟩
abbrev cX4_isWord : ByteArray := prog_6_method_13_code
def yX4_isWord : MethodName := ⟨RX4, "isWord", "(Ljava/lang/String;)Z"⟩
abbrev cX4_numberHere : ByteArray := prog_6_method_14_code
def yX4_numberHere : MethodName := ⟨RX4, "numberHere", "()I"⟩
abbrev cX4_advance : ByteArray := prog_6_method_15_code
def yX4_advance : MethodName := ⟨RX4, "advance", "()V"⟩
abbrev cX4_kindAt : ByteArray := prog_6_method_16_code
def yX4_kindAt : MethodName := ⟨RX4, "kindAt", "(I)I"⟩
def RX5 : String := "MovingStair$Slot"
def TX5 : u_T := fun k => match k with
  | 0 => ("MovingStair$Slot", "held", "Z", false)
  | 1 => ("MovingStair$Slot", "width", "I", false)
  | 2 => ("MovingStair$Slot", "size", "I", false)
  | _ => ("MovingStair$Slot", "numbers", "[J", true)
def tyX5 : Nat → FieldType := fun k => match k with
  | 0 => .boolean
  | 1 => .int
  | 2 => .int
  | _ => .array .long
abbrev wsX50 : List Cond := u_ws RX5 TX5 4
theorem nmX5 : ∀ a, a < 4 → ∀ b, b < 4 → a ≠ b → (TX5 a).2.1 ≠ (TX5 b).2.1 := by decide +kernel
theorem tyX5_ok : ∀ k, k < 4 → parseFieldDescriptor (TX5 k).2.2.1 = some (tyX5 k) := by decide +kernel
abbrev cX5_init : ByteArray := prog_7_method_1_code
def yX5_init : MethodName := ⟨RX5, "<init>", "()V"⟩
abbrev cX5_begin : ByteArray := prog_7_method_2_code
def yX5_begin : MethodName := ⟨RX5, "begin", "(II)V"⟩
abbrev cX5_cut : ByteArray := prog_7_method_3_code
def yX5_cut : MethodName := ⟨RX5, "cut", "(J)J"⟩
abbrev cX5_hasOut : ByteArray := prog_7_method_4_code
def yX5_hasOut : MethodName := ⟨RX5, "hasOut", "(IIJJ)Z"⟩
def RX6 : String := "MovingStair$Travel"
def TX6 : u_T := fun k => match k with
  | 0 => ("MovingStair$Travel", "sum", "LMovingStair$Fraction;", true)
  | 1 => ("MovingStair$Travel", "best", "LMovingStair$Fraction;", true)
  | _ => ("MovingStair$Travel", "minutesLeft", "LMovingStair$Fraction;", true)
def tyX6 : Nat → FieldType := fun k => match k with
  | 0 => .object "MovingStair$Fraction"
  | 1 => .object "MovingStair$Fraction"
  | _ => .object "MovingStair$Fraction"
abbrev wsX60 : List Cond := u_ws RX6 TX6 3
theorem nmX6 : ∀ a, a < 3 → ∀ b, b < 3 → a ≠ b → (TX6 a).2.1 ≠ (TX6 b).2.1 := by decide +kernel
theorem tyX6_ok : ∀ k, k < 3 → parseFieldDescriptor (TX6 k).2.2.1 = some (tyX6 k) := by decide +kernel
abbrev cX6_init : ByteArray := prog_8_method_1_code
def yX6_init : MethodName := ⟨RX6, "<init>", "()V"⟩
abbrev cX6_crosses : ByteArray := prog_8_method_2_code
def yX6_crosses : MethodName := ⟨RX6, "crosses", "(LMovingStair$Layout;II)Z"⟩
abbrev cX6_addTimes : ByteArray := prog_8_method_3_code
def yX6_addTimes : MethodName := ⟨RX6, "addTimes", "(LMovingStair$Layout;IIII)Z"⟩
abbrev cX6_addReturn : ByteArray := prog_8_method_4_code
def yX6_addReturn : MethodName := ⟨RX6, "addReturn", "(LMovingStair$Layout;I)Z"⟩
abbrev cX6_isWithin : ByteArray := prog_8_method_5_code
def yX6_isWithin : MethodName := ⟨RX6, "isWithin", "(LMovingStair$Layout;III)Z"⟩
abbrev cX6_partAfter : ByteArray := prog_8_method_6_code
def yX6_partAfter : MethodName := ⟨RX6, "partAfter", "(LMovingStair$Layout;II)I"⟩
abbrev cX6_stepsAfter : ByteArray := prog_8_method_7_code
def yX6_stepsAfter : MethodName := ⟨RX6, "stepsAfter", "(LMovingStair$Layout;II)I"⟩
abbrev cX6_carry : ByteArray := prog_8_method_8_code
def yX6_carry : MethodName := ⟨RX6, "carry", "(LMovingStair$Layout;II)I"⟩
abbrev cX6_bestChange : ByteArray := prog_8_method_9_code
def yX6_bestChange : MethodName := ⟨RX6, "bestChange", "(LMovingStair$Layout;IIIZ)I"⟩
abbrev cX6_changes : ByteArray := prog_8_method_10_code
def yX6_changes : MethodName := ⟨RX6, "changes", "(LMovingStair$Layout;IIIZI)Z"⟩
def RX7 : String := "MovingStair$Turning"
def TX7 : u_T := fun k => match k with
  | 0 => ("MovingStair$Turning", "hours", "I", false)
  | 1 => ("MovingStair$Turning", "least", "I", false)
  | 2 => ("MovingStair$Turning", "turns", "I", false)
  | 3 => ("MovingStair$Turning", "chosen", "[I", true)
  | 4 => ("MovingStair$Turning", "sets", "I", false)
  | 5 => ("MovingStair$Turning", "cost", "I", false)
  | 6 => ("MovingStair$Turning", "carriedBy", "[I", true)
  | _ => ("MovingStair$Turning", "leftFrom", "[[I", true)
def tyX7 : Nat → FieldType := fun k => match k with
  | 0 => .int
  | 1 => .int
  | 2 => .int
  | 3 => .array .int
  | 4 => .int
  | 5 => .int
  | 6 => .array .int
  | _ => .array (.array .int)
abbrev wsX70 : List Cond := u_ws RX7 TX7 8
theorem nmX7 : ∀ a, a < 8 → ∀ b, b < 8 → a ≠ b → (TX7 a).2.1 ≠ (TX7 b).2.1 := by decide +kernel
theorem tyX7_ok : ∀ k, k < 8 → parseFieldDescriptor (TX7 k).2.2.1 = some (tyX7 k) := by decide +kernel
abbrev cX7_init : ByteArray := prog_9_method_1_code
def yX7_init : MethodName := ⟨RX7, "<init>", "()V"⟩
abbrev cX7_plan : ByteArray := prog_9_method_2_code
def yX7_plan : MethodName := ⟨RX7, "plan", "(LMovingStair$Slot;LMovingStair$Layout;I)V"⟩
abbrev cX7_fillHour : ByteArray := prog_9_method_3_code
def yX7_fillHour : MethodName := ⟨RX7, "fillHour", "(III)V"⟩
abbrev cX7_bestAfter : ByteArray := prog_9_method_4_code
def yX7_bestAfter : MethodName := ⟨RX7, "bestAfter", "(II)I"⟩
abbrev cX7_priceOf : ByteArray := prog_9_method_5_code
def yX7_priceOf : MethodName := ⟨RX7, "priceOf", "(III)I"⟩
abbrev cX7_choose : ByteArray := prog_9_method_6_code
def yX7_choose : MethodName := ⟨RX7, "choose", "()V"⟩
def RX8 : String := "MovingStair"
def TX8 : u_T := fun k => match k with
  | 0 => ("MovingStair", "taped", "I", false)
  | 1 => ("MovingStair", "faultKind", "I", false)
  | 2 => ("MovingStair", "faultPlace", "I", false)
  | 3 => ("MovingStair", "now", "LMovingStair$Layout;", true)
  | 4 => ("MovingStair", "images", "[LMovingStair$Layout;", true)
  | 5 => ("MovingStair", "imaged", "[Z", true)
  | 6 => ("MovingStair", "slots", "[LMovingStair$Slot;", true)
  | 7 => ("MovingStair", "reader", "LMovingStair$Reader;", true)
  | 8 => ("MovingStair", "travel", "LMovingStair$Travel;", true)
  | 9 => ("MovingStair", "counts", "LMovingStair$Counts;", true)
  | 10 => ("MovingStair", "queue", "LMovingStair$Queue;", true)
  | 11 => ("MovingStair", "turning", "LMovingStair$Turning;", true)
  | 12 => ("MovingStair", "told", "LMovingStair$Fraction;", true)
  | _ => ("MovingStair", "compared", "LMovingStair$Fraction;", true)
def tyX8 : Nat → FieldType := fun k => match k with
  | 0 => .int
  | 1 => .int
  | 2 => .int
  | 3 => .object "MovingStair$Layout"
  | 4 => .array (.object "MovingStair$Layout")
  | 5 => .array .boolean
  | 6 => .array (.object "MovingStair$Slot")
  | 7 => .object "MovingStair$Reader"
  | 8 => .object "MovingStair$Travel"
  | 9 => .object "MovingStair$Counts"
  | 10 => .object "MovingStair$Queue"
  | 11 => .object "MovingStair$Turning"
  | 12 => .object "MovingStair$Fraction"
  | _ => .object "MovingStair$Fraction"
abbrev wsX80 : List Cond := u_ws RX8 TX8 14
theorem nmX8 : ∀ a, a < 14 → ∀ b, b < 14 → a ≠ b → (TX8 a).2.1 ≠ (TX8 b).2.1 := by decide +kernel
theorem tyX8_ok : ∀ k, k < 14 → parseFieldDescriptor (TX8 k).2.2.1 = some (tyX8 k) := by decide +kernel
abbrev cX8_init : ByteArray := prog_1_method_1_code
def yX8_init : MethodName := ⟨RX8, "<init>", "()V"⟩
abbrev cX8_feed : ByteArray := prog_1_method_2_code
def yX8_feed : MethodName := ⟨RX8, "feed", "(IIIII)I"⟩
abbrev cX8_putBytes : ByteArray := prog_1_method_3_code
def yX8_putBytes : MethodName := ⟨RX8, "putBytes", "(I)V"⟩
abbrev cX8_end : ByteArray := prog_1_method_4_code
def yX8_end : MethodName := ⟨RX8, "end", "(I)I"⟩
abbrev cX8_stair : ByteArray := prog_1_method_5_code
def yX8_stair : MethodName := ⟨RX8, "stair", "()I"⟩
abbrev cX8_fault : ByteArray := prog_1_method_6_code
def yX8_fault : MethodName := ⟨RX8, "fault", "(I)I"⟩
abbrev cX8_part : ByteArray := prog_1_method_7_code
def yX8_part : MethodName := ⟨RX8, "part", "(II)I"⟩
abbrev cX8_walker : ByteArray := prog_1_method_8_code
def yX8_walker : MethodName := ⟨RX8, "walker", "(I)I"⟩
abbrev cX8_time : ByteArray := prog_1_method_9_code
def yX8_time : MethodName := ⟨RX8, "time", "(II)J"⟩
abbrev cX8_spends : ByteArray := prog_1_method_10_code
def yX8_spends : MethodName := ⟨RX8, "spends", "(III)J"⟩
abbrev cX8_steps : ByteArray := prog_1_method_11_code
def yX8_steps : MethodName := ⟨RX8, "steps", "(II)J"⟩
abbrev cX8_at : ByteArray := prog_1_method_12_code
def yX8_at : MethodName := ⟨RX8, "at", "(II)I"⟩
abbrev cX8_on : ByteArray := prog_1_method_13_code
def yX8_on : MethodName := ⟨RX8, "on", "(II)I"⟩
abbrev cX8_first : ByteArray := prog_1_method_14_code
def yX8_first : MethodName := ⟨RX8, "first", "()I"⟩
abbrev cX8_never : ByteArray := prog_1_method_15_code
def yX8_never : MethodName := ⟨RX8, "never", "()I"⟩
abbrev cX8_catches : ByteArray := prog_1_method_16_code
def yX8_catches : MethodName := ⟨RX8, "catches", "(III)I"⟩
abbrev cX8_lace : ByteArray := prog_1_method_17_code
def yX8_lace : MethodName := ⟨RX8, "lace", "(III)J"⟩
abbrev cX8_ties : ByteArray := prog_1_method_18_code
def yX8_ties : MethodName := ⟨RX8, "ties", "(II)I"⟩
abbrev cX8_saves : ByteArray := prog_1_method_19_code
def yX8_saves : MethodName := ⟨RX8, "saves", "(III)J"⟩
abbrev cX8_canStop : ByteArray := prog_1_method_20_code
def yX8_canStop : MethodName := ⟨RX8, "canStop", "(II)Z"⟩
abbrev cX8_bestStop : ByteArray := prog_1_method_21_code
def yX8_bestStop : MethodName := ⟨RX8, "bestStop", "(II)I"⟩
abbrev cX8_spurt : ByteArray := prog_1_method_22_code
def yX8_spurt : MethodName := ⟨RX8, "spurt", "(IIII)J"⟩
abbrev cX8_runs : ByteArray := prog_1_method_23_code
def yX8_runs : MethodName := ⟨RX8, "runs", "(III)I"⟩
abbrev cX8_bestRun : ByteArray := prog_1_method_24_code
def yX8_bestRun : MethodName := ⟨RX8, "bestRun", "(III)I"⟩
abbrev cX8_train : ByteArray := prog_1_method_25_code
def yX8_train : MethodName := ⟨RX8, "train", "(II)I"⟩
abbrev cX8_miss : ByteArray := prog_1_method_26_code
def yX8_miss : MethodName := ⟨RX8, "miss", "(II)I"⟩
abbrev cX8_rests : ByteArray := prog_1_method_27_code
def yX8_rests : MethodName := ⟨RX8, "rests", "(II)I"⟩
abbrev cX8_back : ByteArray := prog_1_method_28_code
def yX8_back : MethodName := ⟨RX8, "back", "(II)J"⟩
abbrev cX8_round : ByteArray := prog_1_method_29_code
def yX8_round : MethodName := ⟨RX8, "round", "()I"⟩
abbrev cX8_fits : ByteArray := prog_1_method_30_code
def yX8_fits : MethodName := ⟨RX8, "fits", "(I)I"⟩
abbrev cX8_fit : ByteArray := prog_1_method_31_code
def yX8_fit : MethodName := ⟨RX8, "fit", "(II)I"⟩
abbrev cX8_unlike : ByteArray := prog_1_method_32_code
def yX8_unlike : MethodName := ⟨RX8, "unlike", "(II)I"⟩
abbrev cX8_wrong : ByteArray := prog_1_method_33_code
def yX8_wrong : MethodName := ⟨RX8, "wrong", "(I)I"⟩
abbrev cX8_wrongs : ByteArray := prog_1_method_34_code
def yX8_wrongs : MethodName := ⟨RX8, "wrongs", "(I)I"⟩
abbrev cX8_ways : ByteArray := prog_1_method_35_code
def yX8_ways : MethodName := ⟨RX8, "ways", "(I)I"⟩
abbrev cX8_ask : ByteArray := prog_1_method_36_code
def yX8_ask : MethodName := ⟨RX8, "ask", "(I)I"⟩
abbrev cX8_left : ByteArray := prog_1_method_37_code
def yX8_left : MethodName := ⟨RX8, "left", "(I)I"⟩
abbrev cX8_exact : ByteArray := prog_1_method_38_code
def yX8_exact : MethodName := ⟨RX8, "exact", "(II)J"⟩
abbrev cX8_quick : ByteArray := prog_1_method_39_code
def yX8_quick : MethodName := ⟨RX8, "quick", "(II)J"⟩
abbrev cX8_openCounts : ByteArray := prog_1_method_40_code
def yX8_openCounts : MethodName := ⟨RX8, "openCounts", "(I)I"⟩
abbrev cX8_openFewCounts : ByteArray := prog_1_method_41_code
def yX8_openFewCounts : MethodName := ⟨RX8, "openFewCounts", "(I)I"⟩
abbrev cX8_openTwoCounts : ByteArray := prog_1_method_42_code
def yX8_openTwoCounts : MethodName := ⟨RX8, "openTwoCounts", "(II)I"⟩
abbrev cX8_stand : ByteArray := prog_1_method_43_code
def yX8_stand : MethodName := ⟨RX8, "stand", "(II)J"⟩
abbrev cX8_walk : ByteArray := prog_1_method_44_code
def yX8_walk : MethodName := ⟨RX8, "walk", "(II)J"⟩
abbrev cX8_more : ByteArray := prog_1_method_45_code
def yX8_more : MethodName := ⟨RX8, "more", "(I)I"⟩
abbrev cX8_enough : ByteArray := prog_1_method_46_code
def yX8_enough : MethodName := ⟨RX8, "enough", "(I)I"⟩
abbrev cX8_walkingAgainstStanding : ByteArray := prog_1_method_47_code
def yX8_walkingAgainstStanding : MethodName := ⟨RX8, "walkingAgainstStanding", "(II)I"⟩
abbrev cX8_hasFlow : ByteArray := prog_1_method_48_code
def yX8_hasFlow : MethodName := ⟨RX8, "hasFlow", "(I)Z"⟩
abbrev cX8_crowd : ByteArray := prog_1_method_49_code
def yX8_crowd : MethodName := ⟨RX8, "crowd", "(III)J"⟩
abbrev cX8_clears : ByteArray := prog_1_method_50_code
def yX8_clears : MethodName := ⟨RX8, "clears", "(III)I"⟩
abbrev cX8_openCrowd : ByteArray := prog_1_method_51_code
def yX8_openCrowd : MethodName := ⟨RX8, "openCrowd", "(III)I"⟩
abbrev cX8_crowdState : ByteArray := prog_1_method_52_code
def yX8_crowdState : MethodName := ⟨RX8, "crowdState", "(II)I"⟩
abbrev cX8_sides : ByteArray := prog_1_method_53_code
def yX8_sides : MethodName := ⟨RX8, "sides", "(III)J"⟩
abbrev cX8_begins : ByteArray := prog_1_method_54_code
def yX8_begins : MethodName := ⟨RX8, "begins", "(III)I"⟩
abbrev cX8_openSides : ByteArray := prog_1_method_55_code
def yX8_openSides : MethodName := ⟨RX8, "openSides", "(III)I"⟩
abbrev cX8_turn : ByteArray := prog_1_method_56_code
def yX8_turn : MethodName := ⟨RX8, "turn", "(II)I"⟩
abbrev cX8_turned : ByteArray := prog_1_method_57_code
def yX8_turned : MethodName := ⟨RX8, "turned", "(III)I"⟩
abbrev cX8_turnings : ByteArray := prog_1_method_58_code
def yX8_turnings : MethodName := ⟨RX8, "turnings", "(II)I"⟩
abbrev cX8_openTurning : ByteArray := prog_1_method_59_code
def yX8_openTurning : MethodName := ⟨RX8, "openTurning", "(II)I"⟩
abbrev cX8_stream : ByteArray := prog_1_method_60_code
def yX8_stream : MethodName := ⟨RX8, "stream", "(IIII)J"⟩
abbrev cX8_still : ByteArray := prog_1_method_61_code
def yX8_still : MethodName := ⟨RX8, "still", "(IIII)J"⟩
abbrev cX8_openStream : ByteArray := prog_1_method_62_code
def yX8_openStream : MethodName := ⟨RX8, "openStream", "(III)I"⟩
abbrev cX8_ant : ByteArray := prog_1_method_63_code
def yX8_ant : MethodName := ⟨RX8, "ant", "(III)I"⟩
abbrev cX8_isNoStream : ByteArray := prog_1_method_64_code
def yX8_isNoStream : MethodName := ⟨RX8, "isNoStream", "(III)Z"⟩
abbrev cX8_set : ByteArray := prog_1_method_65_code
def yX8_set : MethodName := ⟨RX8, "set", "(II)I"⟩
abbrev cX8_reverse : ByteArray := prog_1_method_66_code
def yX8_reverse : MethodName := ⟨RX8, "reverse", "()I"⟩
abbrev cX8_undo : ByteArray := prog_1_method_67_code
def yX8_undo : MethodName := ⟨RX8, "undo", "()I"⟩
abbrev cX8_anew : ByteArray := prog_1_method_68_code
def yX8_anew : MethodName := ⟨RX8, "anew", "()I"⟩
abbrev cX8_drawn : ByteArray := prog_1_method_69_code
def yX8_drawn : MethodName := ⟨RX8, "drawn", "(I)I"⟩
abbrev cX8_luck : ByteArray := prog_1_method_70_code
def yX8_luck : MethodName := ⟨RX8, "luck", "(IIII)I"⟩
abbrev cX8_isNoSeed : ByteArray := prog_1_method_71_code
def yX8_isNoSeed : MethodName := ⟨RX8, "isNoSeed", "(I)Z"⟩
abbrev cX8_stillFrom : ByteArray := prog_1_method_72_code
def yX8_stillFrom : MethodName := ⟨RX8, "stillFrom", "(J)I"⟩
abbrev cX8_grow : ByteArray := prog_1_method_73_code
def yX8_grow : MethodName := ⟨RX8, "grow", "(II)I"⟩
abbrev cX8_count : ByteArray := prog_1_method_74_code
def yX8_count : MethodName := ⟨RX8, "count", "(I)I"⟩
abbrev cX8_heldSlots : ByteArray := prog_1_method_75_code
def yX8_heldSlots : MethodName := ⟨RX8, "heldSlots", "()I"⟩
abbrev cX8_image : ByteArray := prog_1_method_76_code
def yX8_image : MethodName := ⟨RX8, "image", "(I)I"⟩
abbrev cX8_back_ : ByteArray := prog_1_method_77_code
def yX8_back_ : MethodName := ⟨RX8, "back", "(I)I"⟩
abbrev cX8_row : ByteArray := prog_1_method_78_code
def yX8_row : MethodName := ⟨RX8, "row", "(III)I"⟩
abbrev cX8_write : ByteArray := prog_1_method_79_code
def yX8_write : MethodName := ⟨RX8, "write", "(IIJ)I"⟩
abbrev cX8_paste : ByteArray := prog_1_method_80_code
def yX8_paste : MethodName := ⟨RX8, "paste", "(IIIII)I"⟩
abbrev cX8_isSlot : ByteArray := prog_1_method_81_code
def yX8_isSlot : MethodName := ⟨RX8, "isSlot", "(I)Z"⟩
abbrev cX8_isSide : ByteArray := prog_1_method_82_code
def yX8_isSide : MethodName := ⟨RX8, "isSide", "(I)Z"⟩
abbrev cX8_isOut : ByteArray := prog_1_method_83_code
def yX8_isOut : MethodName := ⟨RX8, "isOut", "(JJJ)Z"⟩
def RX9 : String := "MovingStairModel"
def TX9 : u_T := fun k => match k with
  | 0 => ("MovingStairModel", "thrown", "I", false)
  | 1 => ("MovingStairModel", "width", "[I", true)
  | 2 => ("MovingStairModel", "many", "[I", true)
  | 3 => ("MovingStairModel", "cells", "[J", true)
  | 4 => ("MovingStairModel", "moved", "[J", true)
  | 5 => ("MovingStairModel", "tape", "[B", true)
  | 6 => ("MovingStairModel", "taped", "I", false)
  | 7 => ("MovingStairModel", "at", "I", false)
  | 8 => ("MovingStairModel", "token", "I", false)
  | 9 => ("MovingStairModel", "place", "I", false)
  | 10 => ("MovingStairModel", "value", "I", false)
  | 11 => ("MovingStairModel", "word", "J", false)
  | 12 => ("MovingStairModel", "bad", "I", false)
  | 13 => ("MovingStairModel", "badPlace", "I", false)
  | 14 => ("MovingStairModel", "fault", "I", false)
  | 15 => ("MovingStairModel", "faultPlace", "I", false)
  | 16 => ("MovingStairModel", "lines", "[I", true)
  | 17 => ("MovingStairModel", "has", "[I", true)
  | 18 => ("MovingStairModel", "part", "[I", true)
  | 19 => ("MovingStairModel", "pace", "[I", true)
  | 20 => ("MovingStairModel", "band", "[I", true)
  | 21 => ("MovingStairModel", "act", "[I", true)
  | 22 => ("MovingStairModel", "isKept", "[Z", true)
  | 23 => ("MovingStairModel", "speed", "[I", true)
  | 24 => ("MovingStairModel", "above", "J", false)
  | 25 => ("MovingStairModel", "below", "J", false)
  | 26 => ("MovingStairModel", "onPart", "I", false)
  | 27 => ("MovingStairModel", "leastAbove", "J", false)
  | 28 => ("MovingStairModel", "leastBelow", "J", false)
  | 29 => ("MovingStairModel", "leastOf", "I", false)
  | 30 => ("MovingStairModel", "isWayRow", "[Z", true)
  | 31 => ("MovingStairModel", "byCount", "[I", true)
  | 32 => ("MovingStairModel", "isPair", "[Z", true)
  | 33 => ("MovingStairModel", "askBest", "I", false)
  | 34 => ("MovingStairModel", "askLeaves", "I", false)
  | 35 => ("MovingStairModel", "exactAbove", "J", false)
  | 36 => ("MovingStairModel", "exactBelow", "J", false)
  | 37 => ("MovingStairModel", "quickAbove", "J", false)
  | 38 => ("MovingStairModel", "quickBelow", "J", false)
  | 39 => ("MovingStairModel", "clearIn", "I", false)
  | 40 => ("MovingStairModel", "going", "[J", true)
  | 41 => ("MovingStairModel", "leastWaits", "J", false)
  | 42 => ("MovingStairModel", "leastLeft", "[I", true)
  | _ => ("MovingStairModel", "turnings", "I", false)
def tyX9 : Nat → FieldType := fun k => match k with
  | 0 => .int
  | 1 => .array .int
  | 2 => .array .int
  | 3 => .array .long
  | 4 => .array .long
  | 5 => .array .byte
  | 6 => .int
  | 7 => .int
  | 8 => .int
  | 9 => .int
  | 10 => .int
  | 11 => .long
  | 12 => .int
  | 13 => .int
  | 14 => .int
  | 15 => .int
  | 16 => .array .int
  | 17 => .array .int
  | 18 => .array .int
  | 19 => .array .int
  | 20 => .array .int
  | 21 => .array .int
  | 22 => .array .boolean
  | 23 => .array .int
  | 24 => .long
  | 25 => .long
  | 26 => .int
  | 27 => .long
  | 28 => .long
  | 29 => .int
  | 30 => .array .boolean
  | 31 => .array .int
  | 32 => .array .boolean
  | 33 => .int
  | 34 => .int
  | 35 => .long
  | 36 => .long
  | 37 => .long
  | 38 => .long
  | 39 => .int
  | 40 => .array .long
  | 41 => .long
  | 42 => .array .int
  | _ => .int
abbrev wsX90 : List Cond := u_ws RX9 TX9 44
theorem nmX9 : ∀ a, a < 44 → ∀ b, b < 44 → a ≠ b → (TX9 a).2.1 ≠ (TX9 b).2.1 := by decide +kernel
theorem tyX9_ok : ∀ k, k < 44 → parseFieldDescriptor (TX9 k).2.2.1 = some (tyX9 k) := by decide +kernel
abbrev cX9_init : ByteArray := prog_11_method_1_code
def yX9_init : MethodName := ⟨RX9, "<init>", "()V"⟩
abbrev cX9_in : ByteArray := prog_11_method_3_code
def yX9_in : MethodName := ⟨RX9, "in", "(JJJ)Z"⟩
abbrev cX9_isSlot : ByteArray := prog_11_method_4_code
def yX9_isSlot : MethodName := ⟨RX9, "isSlot", "(I)Z"⟩
abbrev cX9_row : ByteArray := prog_11_method_5_code
def yX9_row : MethodName := ⟨RX9, "row", "(III)I"⟩
abbrev cX9_cut : ByteArray := prog_11_method_6_code
def yX9_cut : MethodName := ⟨RX9, "cut", "(JI)J"⟩
abbrev cX9_write : ByteArray := prog_11_method_7_code
def yX9_write : MethodName := ⟨RX9, "write", "(IIJ)I"⟩
abbrev cX9_paste : ByteArray := prog_11_method_8_code
def yX9_paste : MethodName := ⟨RX9, "paste", "(IIIII)I"⟩
abbrev cX9_feed : ByteArray := prog_11_method_9_code
def yX9_feed : MethodName := ⟨RX9, "feed", "(IIIII)I"⟩
abbrev cX9_four : ByteArray := prog_11_method_10_code
def yX9_four : MethodName := ⟨RX9, "four", "(I)V"⟩
abbrev cX9_end : ByteArray := prog_11_method_11_code
def yX9_end : MethodName := ⟨RX9, "end", "(I)I"⟩
abbrev cX9_isByte : ByteArray := prog_11_method_12_code
def yX9_isByte : MethodName := ⟨RX9, "isByte", "(III)Z"⟩
abbrev cX9_next : ByteArray := prog_11_method_13_code
def yX9_next : MethodName := ⟨RX9, "next", "()V"⟩
abbrev cX9_isGood : ByteArray := prog_11_method_14_code
def yX9_isGood : MethodName := ⟨RX9, "isGood", "()Z"⟩
abbrev cX9_fails : ByteArray := prog_11_method_15_code
def yX9_fails : MethodName := ⟨RX9, "fails", "(I)V"⟩
abbrev cX9_is : ByteArray := prog_11_method_16_code
def yX9_is : MethodName := ⟨RX9, "is", "(J)Z"⟩
abbrev cX9_takes : ByteArray := prog_11_method_17_code
def yX9_takes : MethodName := ⟨RX9, "takes", "(J)Z"⟩
abbrev cX9_asks : ByteArray := prog_11_method_18_code
def yX9_asks : MethodName := ⟨RX9, "asks", "(J)V"⟩
abbrev cX9_number : ByteArray := prog_11_method_19_code
def yX9_number : MethodName := ⟨RX9, "number", "(II)I"⟩
abbrev cX9_number_ : ByteArray := prog_11_method_20_code
def yX9_number_ : MethodName := ⟨RX9, "number", "(JII)I"⟩
abbrev cX9_ends : ByteArray := prog_11_method_21_code
def yX9_ends : MethodName := ⟨RX9, "ends", "()V"⟩
abbrev cX9_begins : ByteArray := prog_11_method_22_code
def yX9_begins : MethodName := ⟨RX9, "begins", "()V"⟩
abbrev cX9_isOver : ByteArray := prog_11_method_23_code
def yX9_isOver : MethodName := ⟨RX9, "isOver", "()V"⟩
abbrev cX9_fault : ByteArray := prog_11_method_24_code
def yX9_fault : MethodName := ⟨RX9, "fault", "(I)I"⟩
abbrev cX9_hasRead : ByteArray := prog_11_method_25_code
def yX9_hasRead : MethodName := ⟨RX9, "hasRead", "(I)I"⟩
abbrev cX9_tells : ByteArray := prog_11_method_26_code
def yX9_tells : MethodName := ⟨RX9, "tells", "(II)V"⟩
abbrev cX9_partLine : ByteArray := prog_11_method_27_code
def yX9_partLine : MethodName := ⟨RX9, "partLine", "()V"⟩
abbrev cX9_isRoom : ByteArray := prog_11_method_28_code
def yX9_isRoom : MethodName := ⟨RX9, "isRoom", "(ZII)Z"⟩
abbrev cX9_line : ByteArray := prog_11_method_29_code
def yX9_line : MethodName := ⟨RX9, "line", "()V"⟩
abbrev cX9_valueHere : ByteArray := prog_11_method_30_code
def yX9_valueHere : MethodName := ⟨RX9, "valueHere", "()I"⟩
abbrev cX9_clears0 : ByteArray := prog_11_method_31_code
def yX9_clears0 : MethodName := ⟨RX9, "clears0", "()V"⟩
abbrev cX9_stair : ByteArray := prog_11_method_32_code
def yX9_stair : MethodName := ⟨RX9, "stair", "()I"⟩
abbrev cX9_copyRow : ByteArray := prog_11_method_33_code
def yX9_copyRow : MethodName := ⟨RX9, "copyRow", "([IIII)V"⟩
abbrev cX9_copyStair : ByteArray := prog_11_method_34_code
def yX9_copyStair : MethodName := ⟨RX9, "copyStair", "(II)V"⟩
abbrev cX9_isStair : ByteArray := prog_11_method_35_code
def yX9_isStair : MethodName := ⟨RX9, "isStair", "()Z"⟩
abbrev cX9_isPart : ByteArray := prog_11_method_36_code
def yX9_isPart : MethodName := ⟨RX9, "isPart", "(I)Z"⟩
abbrev cX9_isWalker : ByteArray := prog_11_method_37_code
def yX9_isWalker : MethodName := ⟨RX9, "isWalker", "(I)Z"⟩
abbrev cX9_isBit : ByteArray := prog_11_method_38_code
def yX9_isBit : MethodName := ⟨RX9, "isBit", "(II)Z"⟩
abbrev cX9_isHalf : ByteArray := prog_11_method_39_code
def yX9_isHalf : MethodName := ⟨RX9, "isHalf", "(I)Z"⟩
abbrev cX9_sizeOf : ByteArray := prog_11_method_40_code
def yX9_sizeOf : MethodName := ⟨RX9, "sizeOf", "(I)I"⟩
abbrev cX9_lays : ByteArray := prog_11_method_41_code
def yX9_lays : MethodName := ⟨RX9, "lays", "()V"⟩
abbrev cX9_stepsOf : ByteArray := prog_11_method_42_code
def yX9_stepsOf : MethodName := ⟨RX9, "stepsOf", "(I)I"⟩
abbrev cX9_part : ByteArray := prog_11_method_43_code
def yX9_part : MethodName := ⟨RX9, "part", "(II)I"⟩
abbrev cX9_walker : ByteArray := prog_11_method_44_code
def yX9_walker : MethodName := ⟨RX9, "walker", "(I)I"⟩
abbrev cX9_common : ByteArray := prog_11_method_45_code
def yX9_common : MethodName := ⟨RX9, "common", "(JJ)J"⟩
abbrev cX9_adds : ByteArray := prog_11_method_46_code
def yX9_adds : MethodName := ⟨RX9, "adds", "(JJ)V"⟩
abbrev cX9_zero : ByteArray := prog_11_method_47_code
def yX9_zero : MethodName := ⟨RX9, "zero", "()V"⟩
abbrev cX9_half : ByteArray := prog_11_method_48_code
def yX9_half : MethodName := ⟨RX9, "half", "(I)J"⟩
abbrev cX9_isLess : ByteArray := prog_11_method_49_code
def yX9_isLess : MethodName := ⟨RX9, "isLess", "(JJJJ)Z"⟩
abbrev cX9_goes : ByteArray := prog_11_method_50_code
def yX9_goes : MethodName := ⟨RX9, "goes", "(II)Z"⟩
abbrev cX9_isWay : ByteArray := prog_11_method_51_code
def yX9_isWay : MethodName := ⟨RX9, "isWay", "(II)Z"⟩
abbrev cX9_time : ByteArray := prog_11_method_52_code
def yX9_time : MethodName := ⟨RX9, "time", "(II)J"⟩
abbrev cX9_spends : ByteArray := prog_11_method_53_code
def yX9_spends : MethodName := ⟨RX9, "spends", "(III)J"⟩
abbrev cX9_steps : ByteArray := prog_11_method_54_code
def yX9_steps : MethodName := ⟨RX9, "steps", "(II)J"⟩
abbrev cX9_comes : ByteArray := prog_11_method_55_code
def yX9_comes : MethodName := ⟨RX9, "comes", "(II)I"⟩
abbrev cX9_areSeconds : ByteArray := prog_11_method_56_code
def yX9_areSeconds : MethodName := ⟨RX9, "areSeconds", "(III)Z"⟩
abbrev cX9_at : ByteArray := prog_11_method_57_code
def yX9_at : MethodName := ⟨RX9, "at", "(II)I"⟩
abbrev cX9_on : ByteArray := prog_11_method_58_code
def yX9_on : MethodName := ⟨RX9, "on", "(II)I"⟩
abbrev cX9_keeps : ByteArray := prog_11_method_59_code
def yX9_keeps : MethodName := ⟨RX9, "keeps", "(I)V"⟩
abbrev cX9_first : ByteArray := prog_11_method_60_code
def yX9_first : MethodName := ⟨RX9, "first", "()I"⟩
abbrev cX9_never : ByteArray := prog_11_method_61_code
def yX9_never : MethodName := ⟨RX9, "never", "()I"⟩
abbrev cX9_catches : ByteArray := prog_11_method_62_code
def yX9_catches : MethodName := ⟨RX9, "catches", "(III)I"⟩
abbrev cX9_turnsAt : ByteArray := prog_11_method_63_code
def yX9_turnsAt : MethodName := ⟨RX9, "turnsAt", "(IIIIZ)Z"⟩
abbrev cX9_laysTurns : ByteArray := prog_11_method_64_code
def yX9_laysTurns : MethodName := ⟨RX9, "laysTurns", "(IIIZ)V"⟩
abbrev cX9_isTurn : ByteArray := prog_11_method_65_code
def yX9_isTurn : MethodName := ⟨RX9, "isTurn", "(III)Z"⟩
abbrev cX9_lace : ByteArray := prog_11_method_66_code
def yX9_lace : MethodName := ⟨RX9, "lace", "(III)J"⟩
abbrev cX9_ties : ByteArray := prog_11_method_67_code
def yX9_ties : MethodName := ⟨RX9, "ties", "(II)I"⟩
abbrev cX9_saves : ByteArray := prog_11_method_68_code
def yX9_saves : MethodName := ⟨RX9, "saves", "(III)J"⟩
abbrev cX9_spurt : ByteArray := prog_11_method_69_code
def yX9_spurt : MethodName := ⟨RX9, "spurt", "(IIII)J"⟩
abbrev cX9_runs : ByteArray := prog_11_method_70_code
def yX9_runs : MethodName := ⟨RX9, "runs", "(III)I"⟩
abbrev cX9_isTrain : ByteArray := prog_11_method_71_code
def yX9_isTrain : MethodName := ⟨RX9, "isTrain", "(II)Z"⟩
abbrev cX9_train : ByteArray := prog_11_method_72_code
def yX9_train : MethodName := ⟨RX9, "train", "(II)I"⟩
abbrev cX9_miss : ByteArray := prog_11_method_73_code
def yX9_miss : MethodName := ⟨RX9, "miss", "(II)I"⟩
abbrev cX9_rests : ByteArray := prog_11_method_74_code
def yX9_rests : MethodName := ⟨RX9, "rests", "(II)I"⟩
abbrev cX9_back : ByteArray := prog_11_method_75_code
def yX9_back : MethodName := ⟨RX9, "back", "(II)J"⟩
abbrev cX9_round : ByteArray := prog_11_method_76_code
def yX9_round : MethodName := ⟨RX9, "round", "()I"⟩
abbrev cX9_whyNot : ByteArray := prog_11_method_77_code
def yX9_whyNot : MethodName := ⟨RX9, "whyNot", "(I)I"⟩
abbrev cX9_rows : ByteArray := prog_11_method_78_code
def yX9_rows : MethodName := ⟨RX9, "rows", "(I)I"⟩
abbrev cX9_cellOf : ByteArray := prog_11_method_79_code
def yX9_cellOf : MethodName := ⟨RX9, "cellOf", "(III)J"⟩
abbrev cX9_isFit : ByteArray := prog_11_method_80_code
def yX9_isFit : MethodName := ⟨RX9, "isFit", "(IIIIJ)Z"⟩
abbrev cX9_areFit : ByteArray := prog_11_method_81_code
def yX9_areFit : MethodName := ⟨RX9, "areFit", "(III)Z"⟩
abbrev cX9_fits : ByteArray := prog_11_method_82_code
def yX9_fits : MethodName := ⟨RX9, "fits", "(I)I"⟩
abbrev cX9_fit : ByteArray := prog_11_method_83_code
def yX9_fit : MethodName := ⟨RX9, "fit", "(II)I"⟩
abbrev cX9_unlike : ByteArray := prog_11_method_84_code
def yX9_unlike : MethodName := ⟨RX9, "unlike", "(II)I"⟩
abbrev cX9_wrongBy : ByteArray := prog_11_method_85_code
def yX9_wrongBy : MethodName := ⟨RX9, "wrongBy", "(III)I"⟩
abbrev cX9_wrongOf : ByteArray := prog_11_method_86_code
def yX9_wrongOf : MethodName := ⟨RX9, "wrongOf", "(I)I"⟩
abbrev cX9_wrong : ByteArray := prog_11_method_87_code
def yX9_wrong : MethodName := ⟨RX9, "wrong", "(I)I"⟩
abbrev cX9_whyNotTen : ByteArray := prog_11_method_88_code
def yX9_whyNotTen : MethodName := ⟨RX9, "whyNotTen", "(I)I"⟩
abbrev cX9_wrongs : ByteArray := prog_11_method_89_code
def yX9_wrongs : MethodName := ⟨RX9, "wrongs", "(I)I"⟩
abbrev cX9_ways : ByteArray := prog_11_method_90_code
def yX9_ways : MethodName := ⟨RX9, "ways", "(I)I"⟩
abbrev cX9_laysAsk : ByteArray := prog_11_method_91_code
def yX9_laysAsk : MethodName := ⟨RX9, "laysAsk", "(I)V"⟩
abbrev cX9_ask : ByteArray := prog_11_method_92_code
def yX9_ask : MethodName := ⟨RX9, "ask", "(I)I"⟩
abbrev cX9_left : ByteArray := prog_11_method_93_code
def yX9_left : MethodName := ⟨RX9, "left", "(I)I"⟩
abbrev cX9_isExact : ByteArray := prog_11_method_94_code
def yX9_isExact : MethodName := ⟨RX9, "isExact", "(I)Z"⟩
abbrev cX9_whyNotExact : ByteArray := prog_11_method_95_code
def yX9_whyNotExact : MethodName := ⟨RX9, "whyNotExact", "(II)I"⟩
abbrev cX9_exact : ByteArray := prog_11_method_96_code
def yX9_exact : MethodName := ⟨RX9, "exact", "(II)J"⟩
abbrev cX9_quick : ByteArray := prog_11_method_97_code
def yX9_quick : MethodName := ⟨RX9, "quick", "(II)J"⟩
abbrev cX9_flows : ByteArray := prog_11_method_98_code
def yX9_flows : MethodName := ⟨RX9, "flows", "(III)V"⟩
abbrev cX9_areSides : ByteArray := prog_11_method_99_code
def yX9_areSides : MethodName := ⟨RX9, "areSides", "(I)Z"⟩
abbrev cX9_stand : ByteArray := prog_11_method_100_code
def yX9_stand : MethodName := ⟨RX9, "stand", "(II)J"⟩
abbrev cX9_walk : ByteArray := prog_11_method_101_code
def yX9_walk : MethodName := ⟨RX9, "walk", "(II)J"⟩
abbrev cX9_moreBy : ByteArray := prog_11_method_102_code
def yX9_moreBy : MethodName := ⟨RX9, "moreBy", "(II)I"⟩
abbrev cX9_more : ByteArray := prog_11_method_103_code
def yX9_more : MethodName := ⟨RX9, "more", "(I)I"⟩
abbrev cX9_enough : ByteArray := prog_11_method_104_code
def yX9_enough : MethodName := ⟨RX9, "enough", "(I)I"⟩
abbrev cX9_whyNotCrowd : ByteArray := prog_11_method_105_code
def yX9_whyNotCrowd : MethodName := ⟨RX9, "whyNotCrowd", "(III)I"⟩
abbrev cX9_flowOf : ByteArray := prog_11_method_106_code
def yX9_flowOf : MethodName := ⟨RX9, "flowOf", "(II)J"⟩
abbrev cX9_waits : ByteArray := prog_11_method_107_code
def yX9_waits : MethodName := ⟨RX9, "waits", "(IJ)J"⟩
abbrev cX9_crowd : ByteArray := prog_11_method_108_code
def yX9_crowd : MethodName := ⟨RX9, "crowd", "(III)J"⟩
abbrev cX9_clears : ByteArray := prog_11_method_109_code
def yX9_clears : MethodName := ⟨RX9, "clears", "(III)I"⟩
abbrev cX9_whyNotSides : ByteArray := prog_11_method_110_code
def yX9_whyNotSides : MethodName := ⟨RX9, "whyNotSides", "(III)I"⟩
abbrev cX9_tries : ByteArray := prog_11_method_111_code
def yX9_tries : MethodName := ⟨RX9, "tries", "(IIIIJJ)V"⟩
abbrev cX9_sidesOf : ByteArray := prog_11_method_112_code
def yX9_sidesOf : MethodName := ⟨RX9, "sidesOf", "(IIII)J"⟩
abbrev cX9_sides : ByteArray := prog_11_method_113_code
def yX9_sides : MethodName := ⟨RX9, "sides", "(III)J"⟩
abbrev cX9_begins_ : ByteArray := prog_11_method_114_code
def yX9_begins_ : MethodName := ⟨RX9, "begins", "(III)I"⟩
abbrev cX9_whyNotTurn : ByteArray := prog_11_method_115_code
def yX9_whyNotTurn : MethodName := ⟨RX9, "whyNotTurn", "(II)I"⟩
abbrev cX9_hours : ByteArray := prog_11_method_116_code
def yX9_hours : MethodName := ⟨RX9, "hours", "(I)I"⟩
abbrev cX9_leftBy : ByteArray := prog_11_method_117_code
def yX9_leftBy : MethodName := ⟨RX9, "leftBy", "(III)I"⟩
abbrev cX9_onBy : ByteArray := prog_11_method_118_code
def yX9_onBy : MethodName := ⟨RX9, "onBy", "(IIIII)I"⟩
abbrev cX9_laysTurn : ByteArray := prog_11_method_119_code
def yX9_laysTurn : MethodName := ⟨RX9, "laysTurn", "(II)V"⟩
abbrev cX9_turnOf : ByteArray := prog_11_method_120_code
def yX9_turnOf : MethodName := ⟨RX9, "turnOf", "(I)I"⟩
abbrev cX9_turn : ByteArray := prog_11_method_121_code
def yX9_turn : MethodName := ⟨RX9, "turn", "(II)I"⟩
abbrev cX9_turnedIn : ByteArray := prog_11_method_122_code
def yX9_turnedIn : MethodName := ⟨RX9, "turnedIn", "(III)I"⟩
abbrev cX9_turned : ByteArray := prog_11_method_123_code
def yX9_turned : MethodName := ⟨RX9, "turned", "(III)I"⟩
abbrev cX9_turnings : ByteArray := prog_11_method_124_code
def yX9_turnings : MethodName := ⟨RX9, "turnings", "(II)I"⟩
abbrev cX9_isStream : ByteArray := prog_11_method_125_code
def yX9_isStream : MethodName := ⟨RX9, "isStream", "(IIII)Z"⟩
abbrev cX9_stream : ByteArray := prog_11_method_126_code
def yX9_stream : MethodName := ⟨RX9, "stream", "(IIII)J"⟩
abbrev cX9_still : ByteArray := prog_11_method_127_code
def yX9_still : MethodName := ⟨RX9, "still", "(IIII)J"⟩
abbrev cX9_ant : ByteArray := prog_11_method_128_code
def yX9_ant : MethodName := ⟨RX9, "ant", "(III)I"⟩
abbrev cX9_isFull : ByteArray := prog_11_method_129_code
def yX9_isFull : MethodName := ⟨RX9, "isFull", "()Z"⟩
abbrev cX9_acts : ByteArray := prog_11_method_130_code
def yX9_acts : MethodName := ⟨RX9, "acts", "(II)V"⟩
abbrev cX9_set : ByteArray := prog_11_method_131_code
def yX9_set : MethodName := ⟨RX9, "set", "(II)I"⟩
abbrev cX9_reverse : ByteArray := prog_11_method_132_code
def yX9_reverse : MethodName := ⟨RX9, "reverse", "()I"⟩
abbrev cX9_undo : ByteArray := prog_11_method_133_code
def yX9_undo : MethodName := ⟨RX9, "undo", "()I"⟩
abbrev cX9_anew : ByteArray := prog_11_method_134_code
def yX9_anew : MethodName := ⟨RX9, "anew", "()I"⟩
abbrev cX9_drawnOf : ByteArray := prog_11_method_135_code
def yX9_drawnOf : MethodName := ⟨RX9, "drawnOf", "(J)I"⟩
abbrev cX9_isDraw : ByteArray := prog_11_method_136_code
def yX9_isDraw : MethodName := ⟨RX9, "isDraw", "(I)Z"⟩
abbrev cX9_drawn : ByteArray := prog_11_method_137_code
def yX9_drawn : MethodName := ⟨RX9, "drawn", "(I)I"⟩
abbrev cX9_luck : ByteArray := prog_11_method_138_code
def yX9_luck : MethodName := ⟨RX9, "luck", "(IIII)I"⟩
abbrev cX9_grow : ByteArray := prog_11_method_139_code
def yX9_grow : MethodName := ⟨RX9, "grow", "(II)I"⟩
abbrev cX9_count : ByteArray := prog_11_method_140_code
def yX9_count : MethodName := ⟨RX9, "count", "(I)I"⟩
abbrev cX9_image : ByteArray := prog_11_method_141_code
def yX9_image : MethodName := ⟨RX9, "image", "(I)I"⟩
abbrev cX9_back_ : ByteArray := prog_11_method_142_code
def yX9_back_ : MethodName := ⟨RX9, "back", "(I)I"⟩
def RJx145de : String := "java/io/Serializable"
def TJx145de : u_T := fun k => match k with
  | _ => ("", "", "", false)
def tyJx145de : Nat → FieldType := fun k => match k with
  | _ => .int
abbrev wsJx145de0 : List Cond := u_ws RJx145de TJx145de 0
theorem nmJx145de : ∀ a, a < 0 → ∀ b, b < 0 → a ≠ b → (TJx145de a).2.1 ≠ (TJx145de b).2.1 := by decide +kernel
theorem tyJx145de_ok : ∀ k, k < 0 → parseFieldDescriptor (TJx145de k).2.2.1 = some (tyJx145de k) := by decide +kernel
def RJx9f9b0 : String := "java/lang/CharSequence"
def TJx9f9b0 : u_T := fun k => match k with
  | _ => ("", "", "", false)
def tyJx9f9b0 : Nat → FieldType := fun k => match k with
  | _ => .int
abbrev wsJx9f9b00 : List Cond := u_ws RJx9f9b0 TJx9f9b0 0
theorem nmJx9f9b0 : ∀ a, a < 0 → ∀ b, b < 0 → a ≠ b → (TJx9f9b0 a).2.1 ≠ (TJx9f9b0 b).2.1 := by decide +kernel
theorem tyJx9f9b0_ok : ∀ k, k < 0 → parseFieldDescriptor (TJx9f9b0 k).2.2.1 = some (tyJx9f9b0 k) := by decide +kernel
def RJxb160c : String := "java/lang/Comparable"
def TJxb160c : u_T := fun k => match k with
  | _ => ("", "", "", false)
def tyJxb160c : Nat → FieldType := fun k => match k with
  | _ => .int
abbrev wsJxb160c0 : List Cond := u_ws RJxb160c TJxb160c 0
theorem nmJxb160c : ∀ a, a < 0 → ∀ b, b < 0 → a ≠ b → (TJxb160c a).2.1 ≠ (TJxb160c b).2.1 := by decide +kernel
theorem tyJxb160c_ok : ∀ k, k < 0 → parseFieldDescriptor (TJxb160c k).2.2.1 = some (tyJxb160c k) := by decide +kernel
def RJ6 : String := "java/lang/Integer"
def TJ6 : u_T := fun k => match k with
  | _ => ("", "", "", false)
def tyJ6 : Nat → FieldType := fun k => match k with
  | _ => .int
abbrev wsJ60 : List Cond := u_ws RJ6 TJ6 0
theorem nmJ6 : ∀ a, a < 0 → ∀ b, b < 0 → a ≠ b → (TJ6 a).2.1 ≠ (TJ6 b).2.1 := by decide +kernel
theorem tyJ6_ok : ∀ k, k < 0 → parseFieldDescriptor (TJ6 k).2.2.1 = some (tyJ6 k) := by decide +kernel
abbrev cJ6_bitCount_0f7a4 : ByteArray := prog_12_method_49_code
def yJ6_bitCount_0f7a4 : MethodName := ⟨RJ6, "bitCount", "(I)I"⟩
def RJ13 : String := "java/lang/Long"
def TJ13 : u_T := fun k => match k with
  | _ => ("", "", "", false)
def tyJ13 : Nat → FieldType := fun k => match k with
  | _ => .int
abbrev wsJ130 : List Cond := u_ws RJ13 TJ13 0
theorem nmJ13 : ∀ a, a < 0 → ∀ b, b < 0 → a ≠ b → (TJ13 a).2.1 ≠ (TJ13 b).2.1 := by decide +kernel
theorem tyJ13_ok : ∀ k, k < 0 → parseFieldDescriptor (TJ13 k).2.2.1 = some (tyJ13 k) := by decide +kernel
abbrev cJ13_compare_74951 : ByteArray := prog_13_method_42_code
def yJ13_compare_74951 : MethodName := ⟨RJ13, "compare", "(JJ)I"⟩
def RJ9 : String := "java/lang/Math"
def TJ9 : u_T := fun k => match k with
  | _ => ("", "", "", false)
def tyJ9 : Nat → FieldType := fun k => match k with
  | _ => .int
abbrev wsJ90 : List Cond := u_ws RJ9 TJ9 0
theorem nmJ9 : ∀ a, a < 0 → ∀ b, b < 0 → a ≠ b → (TJ9 a).2.1 ≠ (TJ9 b).2.1 := by decide +kernel
theorem tyJ9_ok : ∀ k, k < 0 → parseFieldDescriptor (TJ9 k).2.2.1 = some (tyJ9 k) := by decide +kernel
abbrev cJ9_floorDiv_f86c9 : ByteArray := prog_14_method_49_code
def yJ9_floorDiv_f86c9 : MethodName := ⟨RJ9, "floorDiv", "(JJ)J"⟩
abbrev cJ9_max_7cf53 : ByteArray := prog_14_method_65_code
def yJ9_max_7cf53 : MethodName := ⟨RJ9, "max", "(II)I"⟩
abbrev cJ9_max_f86c9 : ByteArray := prog_14_method_66_code
def yJ9_max_f86c9 : MethodName := ⟨RJ9, "max", "(JJ)J"⟩
abbrev cJ9_min_7cf53 : ByteArray := prog_14_method_69_code
def yJ9_min_7cf53 : MethodName := ⟨RJ9, "min", "(II)I"⟩
abbrev cJ9_min_f86c9 : ByteArray := prog_14_method_70_code
def yJ9_min_f86c9 : MethodName := ⟨RJ9, "min", "(JJ)J"⟩
def RJ0 : String := "java/lang/String"
def TJ0 : u_T := fun k => match k with
  | _ => ("", "", "", false)
def tyJ0 : Nat → FieldType := fun k => match k with
  | _ => .int
abbrev wsJ00 : List Cond := u_ws RJ0 TJ0 0
theorem nmJ0 : ∀ a, a < 0 → ∀ b, b < 0 → a ≠ b → (TJ0 a).2.1 ≠ (TJ0 b).2.1 := by decide +kernel
theorem tyJ0_ok : ∀ k, k < 0 → parseFieldDescriptor (TJ0 k).2.2.1 = some (tyJ0 k) := by decide +kernel
abbrev cJ0_length_8abf5 : ByteArray := prog_15_method_54_code
def yJ0_length_8abf5 : MethodName := ⟨RJ0, "length", "()I"⟩
abbrev cJ0_charAt_5068e : ByteArray := prog_15_method_56_code
def yJ0_charAt_5068e : MethodName := ⟨RJ0, "charAt", "(I)C"⟩
abbrev cJ0_coder_7d493 : ByteArray := prog_15_method_152_code
def yJ0_coder_7d493 : MethodName := ⟨RJ0, "coder", "()B"⟩
abbrev cJ0_isLatin1_aae02 : ByteArray := prog_15_method_154_code
def yJ0_isLatin1_aae02 : MethodName := ⟨RJ0, "isLatin1", "()Z"⟩
abbrev cJ0_checkIndex_df160 : ByteArray := prog_15_method_155_code
def yJ0_checkIndex_df160 : MethodName := ⟨RJ0, "checkIndex", "(II)V"⟩
def RJ1 : String := "java/lang/StringLatin1"
def TJ1 : u_T := fun k => match k with
  | _ => ("", "", "", false)
def tyJ1 : Nat → FieldType := fun k => match k with
  | _ => .int
abbrev wsJ10 : List Cond := u_ws RJ1 TJ1 0
theorem nmJ1 : ∀ a, a < 0 → ∀ b, b < 0 → a ≠ b → (TJ1 a).2.1 ≠ (TJ1 b).2.1 := by decide +kernel
theorem tyJ1_ok : ∀ k, k < 0 → parseFieldDescriptor (TJ1 k).2.2.1 = some (tyJ1 k) := by decide +kernel
abbrev cJ1_charAt_3b067 : ByteArray := prog_16_method_2_code
def yJ1_charAt_3b067 : MethodName := ⟨RJ1, "charAt", "([BI)C"⟩
def RJ2 : String := "java/lang/StringUTF16"
def TJ2 : u_T := fun k => match k with
  | _ => ("", "", "", false)
def tyJ2 : Nat → FieldType := fun k => match k with
  | _ => .int
abbrev wsJ20 : List Cond := u_ws RJ2 TJ2 0
theorem nmJ2 : ∀ a, a < 0 → ∀ b, b < 0 → a ≠ b → (TJ2 a).2.1 ≠ (TJ2 b).2.1 := by decide +kernel
theorem tyJ2_ok : ∀ k, k < 0 → parseFieldDescriptor (TJ2 k).2.2.1 = some (tyJ2 k) := by decide +kernel
abbrev cJ2_getChar_3b067 : ByteArray := prog_17_method_5_code
def yJ2_getChar_3b067 : MethodName := ⟨RJ2, "getChar", "([BI)C"⟩
abbrev cJ2_length_9d52b : ByteArray := prog_17_method_6_code
def yJ2_length_9d52b : MethodName := ⟨RJ2, "length", "([B)I"⟩
abbrev cJ2_charAt_3b067 : ByteArray := prog_17_method_83_code
def yJ2_charAt_3b067 : MethodName := ⟨RJ2, "charAt", "([BI)C"⟩
abbrev cJ2_checkIndex_2214a : ByteArray := prog_17_method_91_code
def yJ2_checkIndex_2214a : MethodName := ⟨RJ2, "checkIndex", "(I[B)V"⟩
def RJ10 : String := "java/lang/System"
def TJ10 : u_T := fun k => match k with
  | _ => ("", "", "", false)
def tyJ10 : Nat → FieldType := fun k => match k with
  | _ => .int
abbrev wsJ100 : List Cond := u_ws RJ10 TJ10 0
theorem nmJ10 : ∀ a, a < 0 → ∀ b, b < 0 → a ≠ b → (TJ10 a).2.1 ≠ (TJ10 b).2.1 := by decide +kernel
theorem tyJ10_ok : ∀ k, k < 0 → parseFieldDescriptor (TJ10 k).2.2.1 = some (tyJ10 k) := by decide +kernel
def RJxfd54e : String := "java/lang/constant/Constable"
def TJxfd54e : u_T := fun k => match k with
  | _ => ("", "", "", false)
def tyJxfd54e : Nat → FieldType := fun k => match k with
  | _ => .int
abbrev wsJxfd54e0 : List Cond := u_ws RJxfd54e TJxfd54e 0
theorem nmJxfd54e : ∀ a, a < 0 → ∀ b, b < 0 → a ≠ b → (TJxfd54e a).2.1 ≠ (TJxfd54e b).2.1 := by decide +kernel
theorem tyJxfd54e_ok : ∀ k, k < 0 → parseFieldDescriptor (TJxfd54e k).2.2.1 = some (tyJxfd54e k) := by decide +kernel
def RJx3cf43 : String := "java/lang/constant/ConstantDesc"
def TJx3cf43 : u_T := fun k => match k with
  | _ => ("", "", "", false)
def tyJx3cf43 : Nat → FieldType := fun k => match k with
  | _ => .int
abbrev wsJx3cf430 : List Cond := u_ws RJx3cf43 TJx3cf43 0
theorem nmJx3cf43 : ∀ a, a < 0 → ∀ b, b < 0 → a ≠ b → (TJx3cf43 a).2.1 ≠ (TJx3cf43 b).2.1 := by decide +kernel
theorem tyJx3cf43_ok : ∀ k, k < 0 → parseFieldDescriptor (TJx3cf43 k).2.2.1 = some (tyJx3cf43 k) := by decide +kernel
def RJ7 : String := "java/util/Arrays"
def TJ7 : u_T := fun k => match k with
  | _ => ("", "", "", false)
def tyJ7 : Nat → FieldType := fun k => match k with
  | _ => .int
abbrev wsJ70 : List Cond := u_ws RJ7 TJ7 0
theorem nmJ7 : ∀ a, a < 0 → ∀ b, b < 0 → a ≠ b → (TJ7 a).2.1 ≠ (TJ7 b).2.1 := by decide +kernel
theorem tyJ7_ok : ∀ k, k < 0 → parseFieldDescriptor (TJ7 k).2.2.1 = some (tyJ7 k) := by decide +kernel
abbrev cJ7_fill_d0a16 : ByteArray := prog_19_method_101_code
def yJ7_fill_d0a16 : MethodName := ⟨RJ7, "fill", "([JJ)V"⟩
abbrev cJ7_fill_53178 : ByteArray := prog_19_method_103_code
def yJ7_fill_53178 : MethodName := ⟨RJ7, "fill", "([II)V"⟩
def RJ3 : String := "jdk/internal/util/Preconditions"
def TJ3 : u_T := fun k => match k with
  | _ => ("", "", "", false)
def tyJ3 : Nat → FieldType := fun k => match k with
  | _ => .int
abbrev wsJ30 : List Cond := u_ws RJ3 TJ3 0
theorem nmJ3 : ∀ a, a < 0 → ∀ b, b < 0 → a ≠ b → (TJ3 a).2.1 ≠ (TJ3 b).2.1 := by decide +kernel
theorem tyJ3_ok : ∀ k, k < 0 → parseFieldDescriptor (TJ3 k).2.2.1 = some (tyJ3 k) := by decide +kernel
abbrev cJ3_checkIndex_8e157 : ByteArray := prog_20_method_11_code
def yJ3_checkIndex_8e157 : MethodName := ⟨RJ3, "checkIndex", "(IILjava/util/function/BiFunction;)I"⟩
def RL : String := "MovingStairLaw"
abbrev cL_law : ByteArray := code
def yL_law : MethodName := ⟨RL, "law", "([I)Z"⟩
abbrev vwCl : List vw_C := [(RX0, TX0, 16), (RX1, TX1, 2), (RX2, TX2, 17), (RX3, TX3, 9), (RX4, TX4, 8), (RX5, TX5, 4), (RX6, TX6, 3), (RX7, TX7, 8), (RX8, TX8, 14), (RX9, TX9, 44)]
