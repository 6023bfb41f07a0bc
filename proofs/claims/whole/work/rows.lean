section
-- ===== PART A: goes FIRST, ahead of the names: the tables' words, and 'selects' of the private methods out of them =====
/-- a private method of a class that the tables say can be made, by its rows of tables_1 -/
def lw_okq (q : MethodName × Nat) : Prop := (q.1.cls ≠ "java/lang/invoke/MethodHandle" ∧ q.1.cls ≠ "java/lang/invoke/VarHandle") ∧ Cond.instantiable q.1.cls q.2 ∈ tables_1 ∧ Cond.privateMethod q.1 ∈ tables_1 ∧ Cond.instanceMethod q.1 ∈ tables_1
theorem lw_p0 : lw_okq (⟨"StopPress$Aligner", "fill", "(LStopPress$Text;LStopPress$Text;I)V"⟩, 1) := ⟨⟨by decide +kernel, by decide +kernel⟩, List.mem_of_getElem? (i := 47) (by decide +kernel), List.mem_of_getElem? (i := 383) (by decide +kernel), List.mem_of_getElem? (i := 384) (by decide +kernel)⟩
theorem lw_p1 : lw_okq (⟨"StopPress$Aligner", "trace", "(LStopPress$Text;LStopPress$Text;LStopPress$Alignment;)V"⟩, 1) := ⟨⟨by decide +kernel, by decide +kernel⟩, List.mem_of_getElem? (i := 47) (by decide +kernel), List.mem_of_getElem? (i := 399) (by decide +kernel), List.mem_of_getElem? (i := 400) (by decide +kernel)⟩
theorem lw_p2 : lw_okq (⟨"StopPress$Stemma", "read", "(ILStopPress$Text;LStopPress$Alignment;)V"⟩, 12) := ⟨⟨by decide +kernel, by decide +kernel⟩, List.mem_of_getElem? (i := 95) (by decide +kernel), List.mem_of_getElem? (i := 414) (by decide +kernel), List.mem_of_getElem? (i := 415) (by decide +kernel)⟩
theorem lw_p3 : lw_okq (⟨"StopPress$Stemma", "group", "(I)V"⟩, 12) := ⟨⟨by decide +kernel, by decide +kernel⟩, List.mem_of_getElem? (i := 95) (by decide +kernel), List.mem_of_getElem? (i := 432) (by decide +kernel), List.mem_of_getElem? (i := 433) (by decide +kernel)⟩
theorem lw_p4 : lw_okq (⟨"StopPress$Stemma", "connect", "()V"⟩, 12) := ⟨⟨by decide +kernel, by decide +kernel⟩, List.mem_of_getElem? (i := 95) (by decide +kernel), List.mem_of_getElem? (i := 444) (by decide +kernel), List.mem_of_getElem? (i := 445) (by decide +kernel)⟩
theorem lw_p5 : lw_okq (⟨"StopPress$Stemma", "joinNearest", "(I)V"⟩, 12) := ⟨⟨by decide +kernel, by decide +kernel⟩, List.mem_of_getElem? (i := 95) (by decide +kernel), List.mem_of_getElem? (i := 448) (by decide +kernel), List.mem_of_getElem? (i := 449) (by decide +kernel)⟩
theorem lw_p6 : lw_okq (⟨"StopPress$Stemma", "findReverted", "()V"⟩, 12) := ⟨⟨by decide +kernel, by decide +kernel⟩, List.mem_of_getElem? (i := 95) (by decide +kernel), List.mem_of_getElem? (i := 460) (by decide +kernel), List.mem_of_getElem? (i := 461) (by decide +kernel)⟩
theorem lw_p7 : lw_okq (⟨"StopPress$Stemma", "goesBack", "(II)Z"⟩, 12) := ⟨⟨by decide +kernel, by decide +kernel⟩, List.mem_of_getElem? (i := 95) (by decide +kernel), List.mem_of_getElem? (i := 464) (by decide +kernel), List.mem_of_getElem? (i := 465) (by decide +kernel)⟩
theorem lw_p8 : lw_okq (⟨"StopPress$Stemma", "readingOfState", "(II)I"⟩, 12) := ⟨⟨by decide +kernel, by decide +kernel⟩, List.mem_of_getElem? (i := 95) (by decide +kernel), List.mem_of_getElem? (i := 468) (by decide +kernel), List.mem_of_getElem? (i := 469) (by decide +kernel)⟩
theorem lw_p9 : lw_okq (⟨"StopPress$Stemma", "parentOf", "(I)I"⟩, 12) := ⟨⟨by decide +kernel, by decide +kernel⟩, List.mem_of_getElem? (i := 95) (by decide +kernel), List.mem_of_getElem? (i := 472) (by decide +kernel), List.mem_of_getElem? (i := 473) (by decide +kernel)⟩
theorem lw_p10 : lw_okq (⟨"StopPress", "describeCopy", "(II)I"⟩, 9) := ⟨⟨by decide +kernel, by decide +kernel⟩, List.mem_of_getElem? (i := 15) (by decide +kernel), List.mem_of_getElem? (i := 476) (by decide +kernel), List.mem_of_getElem? (i := 477) (by decide +kernel)⟩
theorem lw_p11 : lw_okq (⟨"StopPress$Stemma", "length", "()I"⟩, 12) := ⟨⟨by decide +kernel, by decide +kernel⟩, List.mem_of_getElem? (i := 95) (by decide +kernel), List.mem_of_getElem? (i := 527) (by decide +kernel), List.mem_of_getElem? (i := 528) (by decide +kernel)⟩
theorem lw_p12 : lw_okq (⟨"StopPress$Stemma", "variedPlaces", "()I"⟩, 12) := ⟨⟨by decide +kernel, by decide +kernel⟩, List.mem_of_getElem? (i := 95) (by decide +kernel), List.mem_of_getElem? (i := 531) (by decide +kernel), List.mem_of_getElem? (i := 532) (by decide +kernel)⟩
theorem lw_p13 : lw_okq (⟨"StopPress$Stemma", "reversions", "()I"⟩, 12) := ⟨⟨by decide +kernel, by decide +kernel⟩, List.mem_of_getElem? (i := 95) (by decide +kernel), List.mem_of_getElem? (i := 535) (by decide +kernel), List.mem_of_getElem? (i := 536) (by decide +kernel)⟩
theorem lw_p14 : lw_okq (⟨"StopPress$Stemma", "leaves", "()I"⟩, 12) := ⟨⟨by decide +kernel, by decide +kernel⟩, List.mem_of_getElem? (i := 95) (by decide +kernel), List.mem_of_getElem? (i := 545) (by decide +kernel), List.mem_of_getElem? (i := 546) (by decide +kernel)⟩
theorem lw_p15 : lw_okq (⟨"StopPress$Stemma", "ancestors", "(I)I"⟩, 12) := ⟨⟨by decide +kernel, by decide +kernel⟩, List.mem_of_getElem? (i := 95) (by decide +kernel), List.mem_of_getElem? (i := 558) (by decide +kernel), List.mem_of_getElem? (i := 559) (by decide +kernel)⟩
def lw_privs_1 : List (MethodName × Nat) := [(⟨"StopPress$Aligner", "fill", "(LStopPress$Text;LStopPress$Text;I)V"⟩, 1), (⟨"StopPress$Aligner", "trace", "(LStopPress$Text;LStopPress$Text;LStopPress$Alignment;)V"⟩, 1), (⟨"StopPress$Stemma", "read", "(ILStopPress$Text;LStopPress$Alignment;)V"⟩, 12), (⟨"StopPress$Stemma", "group", "(I)V"⟩, 12), (⟨"StopPress$Stemma", "connect", "()V"⟩, 12), (⟨"StopPress$Stemma", "joinNearest", "(I)V"⟩, 12), (⟨"StopPress$Stemma", "findReverted", "()V"⟩, 12), (⟨"StopPress$Stemma", "goesBack", "(II)Z"⟩, 12), (⟨"StopPress$Stemma", "readingOfState", "(II)I"⟩, 12), (⟨"StopPress$Stemma", "parentOf", "(I)I"⟩, 12), (⟨"StopPress", "describeCopy", "(II)I"⟩, 9), (⟨"StopPress$Stemma", "length", "()I"⟩, 12), (⟨"StopPress$Stemma", "variedPlaces", "()I"⟩, 12), (⟨"StopPress$Stemma", "reversions", "()I"⟩, 12), (⟨"StopPress$Stemma", "leaves", "()I"⟩, 12), (⟨"StopPress$Stemma", "ancestors", "(I)I"⟩, 12)]
theorem lw_r1 : ∀ q ∈ lw_privs_1, lw_okq q := List.forall_mem_cons.mpr ⟨lw_p0, List.forall_mem_cons.mpr ⟨lw_p1, List.forall_mem_cons.mpr ⟨lw_p2, List.forall_mem_cons.mpr ⟨lw_p3, List.forall_mem_cons.mpr ⟨lw_p4, List.forall_mem_cons.mpr ⟨lw_p5, List.forall_mem_cons.mpr ⟨lw_p6, List.forall_mem_cons.mpr ⟨lw_p7, List.forall_mem_cons.mpr ⟨lw_p8, List.forall_mem_cons.mpr ⟨lw_p9, List.forall_mem_cons.mpr ⟨lw_p10, List.forall_mem_cons.mpr ⟨lw_p11, List.forall_mem_cons.mpr ⟨lw_p12, List.forall_mem_cons.mpr ⟨lw_p13, List.forall_mem_cons.mpr ⟨lw_p14, List.forall_mem_cons.mpr ⟨lw_p15, fun _ h => absurd h List.not_mem_nil⟩⟩⟩⟩⟩⟩⟩⟩⟩⟩⟩⟩⟩⟩⟩⟩
theorem lw_p16 : lw_okq (⟨"StopPress", "describeForme", "(II)I"⟩, 9) := ⟨⟨by decide +kernel, by decide +kernel⟩, List.mem_of_getElem? (i := 15) (by decide +kernel), List.mem_of_getElem? (i := 616) (by decide +kernel), List.mem_of_getElem? (i := 617) (by decide +kernel)⟩
theorem lw_p17 : lw_okq (⟨"StopPress$Chronology", "enter", "(LStopPress$Sightings;I)V"⟩, 8) := ⟨⟨by decide +kernel, by decide +kernel⟩, List.mem_of_getElem? (i := 157) (by decide +kernel), List.mem_of_getElem? (i := 629) (by decide +kernel), List.mem_of_getElem? (i := 630) (by decide +kernel)⟩
theorem lw_p18 : lw_okq (⟨"StopPress$Chronology", "findCompanions", "(I)I"⟩, 8) := ⟨⟨by decide +kernel, by decide +kernel⟩, List.mem_of_getElem? (i := 157) (by decide +kernel), List.mem_of_getElem? (i := 638) (by decide +kernel), List.mem_of_getElem? (i := 639) (by decide +kernel)⟩
theorem lw_p19 : lw_okq (⟨"StopPress$Chronology", "countOrders", "()V"⟩, 8) := ⟨⟨by decide +kernel, by decide +kernel⟩, List.mem_of_getElem? (i := 157) (by decide +kernel), List.mem_of_getElem? (i := 642) (by decide +kernel), List.mem_of_getElem? (i := 643) (by decide +kernel)⟩
theorem lw_p20 : lw_okq (⟨"StopPress$Chronology", "findFirst", "()V"⟩, 8) := ⟨⟨by decide +kernel, by decide +kernel⟩, List.mem_of_getElem? (i := 157) (by decide +kernel), List.mem_of_getElem? (i := 646) (by decide +kernel), List.mem_of_getElem? (i := 647) (by decide +kernel)⟩
theorem lw_p21 : lw_okq (⟨"StopPress$Chronology", "firstFree", "(I)I"⟩, 8) := ⟨⟨by decide +kernel, by decide +kernel⟩, List.mem_of_getElem? (i := 157) (by decide +kernel), List.mem_of_getElem? (i := 650) (by decide +kernel), List.mem_of_getElem? (i := 651) (by decide +kernel)⟩
theorem lw_p22 : lw_okq (⟨"StopPress", "describeFormes", "(I)I"⟩, 9) := ⟨⟨by decide +kernel, by decide +kernel⟩, List.mem_of_getElem? (i := 15) (by decide +kernel), List.mem_of_getElem? (i := 704) (by decide +kernel), List.mem_of_getElem? (i := 705) (by decide +kernel)⟩
theorem lw_p23 : lw_okq (⟨"StopPress$Fault", "findPairs", "(LStopPress$Sightings;)V"⟩, 7) := ⟨⟨by decide +kernel, by decide +kernel⟩, List.mem_of_getElem? (i := 188) (by decide +kernel), List.mem_of_getElem? (i := 721) (by decide +kernel), List.mem_of_getElem? (i := 722) (by decide +kernel)⟩
theorem lw_p24 : lw_okq (⟨"StopPress$Fault", "search", "(I)V"⟩, 7) := ⟨⟨by decide +kernel, by decide +kernel⟩, List.mem_of_getElem? (i := 188) (by decide +kernel), List.mem_of_getElem? (i := 728) (by decide +kernel), List.mem_of_getElem? (i := 729) (by decide +kernel)⟩
theorem lw_p25 : lw_okq (⟨"StopPress$Fault", "hasOrderWithout", "(I)Z"⟩, 7) := ⟨⟨by decide +kernel, by decide +kernel⟩, List.mem_of_getElem? (i := 188) (by decide +kernel), List.mem_of_getElem? (i := 733) (by decide +kernel), List.mem_of_getElem? (i := 734) (by decide +kernel)⟩
theorem lw_p26 : lw_okq (⟨"StopPress$Fault", "hasNoCycle", "()Z"⟩, 7) := ⟨⟨by decide +kernel, by decide +kernel⟩, List.mem_of_getElem? (i := 188) (by decide +kernel), List.mem_of_getElem? (i := 737) (by decide +kernel), List.mem_of_getElem? (i := 738) (by decide +kernel)⟩
theorem lw_p27 : lw_okq (⟨"StopPress", "hashCopies", "(J)J"⟩, 9) := ⟨⟨by decide +kernel, by decide +kernel⟩, List.mem_of_getElem? (i := 15) (by decide +kernel), List.mem_of_getElem? (i := 775) (by decide +kernel), List.mem_of_getElem? (i := 776) (by decide +kernel)⟩
theorem lw_p28 : lw_okq (⟨"StopPress", "hashPairs", "(J)J"⟩, 9) := ⟨⟨by decide +kernel, by decide +kernel⟩, List.mem_of_getElem? (i := 15) (by decide +kernel), List.mem_of_getElem? (i := 780) (by decide +kernel), List.mem_of_getElem? (i := 781) (by decide +kernel)⟩
theorem lw_p29 : lw_okq (⟨"StopPress", "hashStates", "(J)J"⟩, 9) := ⟨⟨by decide +kernel, by decide +kernel⟩, List.mem_of_getElem? (i := 15) (by decide +kernel), List.mem_of_getElem? (i := 784) (by decide +kernel), List.mem_of_getElem? (i := 785) (by decide +kernel)⟩
theorem lw_p30 : lw_okq (⟨"StopPress", "hashSightings", "(J)J"⟩, 9) := ⟨⟨by decide +kernel, by decide +kernel⟩, List.mem_of_getElem? (i := 15) (by decide +kernel), List.mem_of_getElem? (i := 792) (by decide +kernel), List.mem_of_getElem? (i := 793) (by decide +kernel)⟩
theorem lw_p31 : lw_okq (⟨"StopPress", "hashFormes", "(J)J"⟩, 9) := ⟨⟨by decide +kernel, by decide +kernel⟩, List.mem_of_getElem? (i := 15) (by decide +kernel), List.mem_of_getElem? (i := 796) (by decide +kernel), List.mem_of_getElem? (i := 797) (by decide +kernel)⟩
def lw_privs_2 : List (MethodName × Nat) := [(⟨"StopPress", "describeForme", "(II)I"⟩, 9), (⟨"StopPress$Chronology", "enter", "(LStopPress$Sightings;I)V"⟩, 8), (⟨"StopPress$Chronology", "findCompanions", "(I)I"⟩, 8), (⟨"StopPress$Chronology", "countOrders", "()V"⟩, 8), (⟨"StopPress$Chronology", "findFirst", "()V"⟩, 8), (⟨"StopPress$Chronology", "firstFree", "(I)I"⟩, 8), (⟨"StopPress", "describeFormes", "(I)I"⟩, 9), (⟨"StopPress$Fault", "findPairs", "(LStopPress$Sightings;)V"⟩, 7), (⟨"StopPress$Fault", "search", "(I)V"⟩, 7), (⟨"StopPress$Fault", "hasOrderWithout", "(I)Z"⟩, 7), (⟨"StopPress$Fault", "hasNoCycle", "()Z"⟩, 7), (⟨"StopPress", "hashCopies", "(J)J"⟩, 9), (⟨"StopPress", "hashPairs", "(J)J"⟩, 9), (⟨"StopPress", "hashStates", "(J)J"⟩, 9), (⟨"StopPress", "hashSightings", "(J)J"⟩, 9), (⟨"StopPress", "hashFormes", "(J)J"⟩, 9)]
theorem lw_r2 : ∀ q ∈ lw_privs_2, lw_okq q := List.forall_mem_cons.mpr ⟨lw_p16, List.forall_mem_cons.mpr ⟨lw_p17, List.forall_mem_cons.mpr ⟨lw_p18, List.forall_mem_cons.mpr ⟨lw_p19, List.forall_mem_cons.mpr ⟨lw_p20, List.forall_mem_cons.mpr ⟨lw_p21, List.forall_mem_cons.mpr ⟨lw_p22, List.forall_mem_cons.mpr ⟨lw_p23, List.forall_mem_cons.mpr ⟨lw_p24, List.forall_mem_cons.mpr ⟨lw_p25, List.forall_mem_cons.mpr ⟨lw_p26, List.forall_mem_cons.mpr ⟨lw_p27, List.forall_mem_cons.mpr ⟨lw_p28, List.forall_mem_cons.mpr ⟨lw_p29, List.forall_mem_cons.mpr ⟨lw_p30, List.forall_mem_cons.mpr ⟨lw_p31, fun _ h => absurd h List.not_mem_nil⟩⟩⟩⟩⟩⟩⟩⟩⟩⟩⟩⟩⟩⟩⟩⟩
theorem lw_p32 : lw_okq (⟨"StopPressModel", "isCopyPage", "()Z"⟩, 32) := ⟨⟨by decide +kernel, by decide +kernel⟩, List.mem_of_getElem? (i := 802) (by decide +kernel), List.mem_of_getElem? (i := 921) (by decide +kernel), List.mem_of_getElem? (i := 922) (by decide +kernel)⟩
theorem lw_p33 : lw_okq (⟨"StopPressModel", "readInto", "(I)V"⟩, 32) := ⟨⟨by decide +kernel, by decide +kernel⟩, List.mem_of_getElem? (i := 802) (by decide +kernel), List.mem_of_getElem? (i := 925) (by decide +kernel), List.mem_of_getElem? (i := 926) (by decide +kernel)⟩
theorem lw_p34 : lw_okq (⟨"StopPressModel", "isCopy", "(I)Z"⟩, 32) := ⟨⟨by decide +kernel, by decide +kernel⟩, List.mem_of_getElem? (i := 802) (by decide +kernel), List.mem_of_getElem? (i := 933) (by decide +kernel), List.mem_of_getElem? (i := 934) (by decide +kernel)⟩
theorem lw_p35 : lw_okq (⟨"StopPressModel", "collateNow", "(III)I"⟩, 32) := ⟨⟨by decide +kernel, by decide +kernel⟩, List.mem_of_getElem? (i := 802) (by decide +kernel), List.mem_of_getElem? (i := 949) (by decide +kernel), List.mem_of_getElem? (i := 950) (by decide +kernel)⟩
theorem lw_p36 : lw_okq (⟨"StopPressModel", "layCollation", "(II)V"⟩, 32) := ⟨⟨by decide +kernel, by decide +kernel⟩, List.mem_of_getElem? (i := 802) (by decide +kernel), List.mem_of_getElem? (i := 953) (by decide +kernel), List.mem_of_getElem? (i := 954) (by decide +kernel)⟩
theorem lw_p37 : lw_okq (⟨"StopPressModel", "leastCost", "(II)I"⟩, 32) := ⟨⟨by decide +kernel, by decide +kernel⟩, List.mem_of_getElem? (i := 802) (by decide +kernel), List.mem_of_getElem? (i := 957) (by decide +kernel), List.mem_of_getElem? (i := 958) (by decide +kernel)⟩
theorem lw_p38 : lw_okq (⟨"StopPressModel", "costBy", "(III)I"⟩, 32) := ⟨⟨by decide +kernel, by decide +kernel⟩, List.mem_of_getElem? (i := 802) (by decide +kernel), List.mem_of_getElem? (i := 962) (by decide +kernel), List.mem_of_getElem? (i := 963) (by decide +kernel)⟩
theorem lw_p39 : lw_okq (⟨"StopPressModel", "letterAt", "(II)I"⟩, 32) := ⟨⟨by decide +kernel, by decide +kernel⟩, List.mem_of_getElem? (i := 802) (by decide +kernel), List.mem_of_getElem? (i := 966) (by decide +kernel), List.mem_of_getElem? (i := 967) (by decide +kernel)⟩
theorem lw_p40 : lw_okq (⟨"StopPressModel", "isCollated", "()Z"⟩, 32) := ⟨⟨by decide +kernel, by decide +kernel⟩, List.mem_of_getElem? (i := 802) (by decide +kernel), List.mem_of_getElem? (i := 976) (by decide +kernel), List.mem_of_getElem? (i := 977) (by decide +kernel)⟩
theorem lw_p41 : lw_okq (⟨"StopPressModel", "stepsOf", "(I)I"⟩, 32) := ⟨⟨by decide +kernel, by decide +kernel⟩, List.mem_of_getElem? (i := 802) (by decide +kernel), List.mem_of_getElem? (i := 980) (by decide +kernel), List.mem_of_getElem? (i := 981) (by decide +kernel)⟩
theorem lw_p42 : lw_okq (⟨"StopPressModel", "stepNow", "(III)I"⟩, 32) := ⟨⟨by decide +kernel, by decide +kernel⟩, List.mem_of_getElem? (i := 802) (by decide +kernel), List.mem_of_getElem? (i := 988) (by decide +kernel), List.mem_of_getElem? (i := 989) (by decide +kernel)⟩
theorem lw_p43 : lw_okq (⟨"StopPressModel", "copyNow", "(II)I"⟩, 32) := ⟨⟨by decide +kernel, by decide +kernel⟩, List.mem_of_getElem? (i := 802) (by decide +kernel), List.mem_of_getElem? (i := 996) (by decide +kernel), List.mem_of_getElem? (i := 997) (by decide +kernel)⟩
theorem lw_p44 : lw_okq (⟨"StopPressModel", "layStates", "()V"⟩, 32) := ⟨⟨by decide +kernel, by decide +kernel⟩, List.mem_of_getElem? (i := 802) (by decide +kernel), List.mem_of_getElem? (i := 1000) (by decide +kernel), List.mem_of_getElem? (i := 1001) (by decide +kernel)⟩
theorem lw_p45 : lw_okq (⟨"StopPressModel", "layReading", "(I)V"⟩, 32) := ⟨⟨by decide +kernel, by decide +kernel⟩, List.mem_of_getElem? (i := 802) (by decide +kernel), List.mem_of_getElem? (i := 1004) (by decide +kernel), List.mem_of_getElem? (i := 1005) (by decide +kernel)⟩
theorem lw_p46 : lw_okq (⟨"StopPressModel", "unlike", "(II)I"⟩, 32) := ⟨⟨by decide +kernel, by decide +kernel⟩, List.mem_of_getElem? (i := 802) (by decide +kernel), List.mem_of_getElem? (i := 1008) (by decide +kernel), List.mem_of_getElem? (i := 1009) (by decide +kernel)⟩
theorem lw_p47 : lw_okq (⟨"StopPressModel", "places", "()I"⟩, 32) := ⟨⟨by decide +kernel, by decide +kernel⟩, List.mem_of_getElem? (i := 802) (by decide +kernel), List.mem_of_getElem? (i := 1012) (by decide +kernel), List.mem_of_getElem? (i := 1013) (by decide +kernel)⟩
def lw_privs_3 : List (MethodName × Nat) := [(⟨"StopPressModel", "isCopyPage", "()Z"⟩, 32), (⟨"StopPressModel", "readInto", "(I)V"⟩, 32), (⟨"StopPressModel", "isCopy", "(I)Z"⟩, 32), (⟨"StopPressModel", "collateNow", "(III)I"⟩, 32), (⟨"StopPressModel", "layCollation", "(II)V"⟩, 32), (⟨"StopPressModel", "leastCost", "(II)I"⟩, 32), (⟨"StopPressModel", "costBy", "(III)I"⟩, 32), (⟨"StopPressModel", "letterAt", "(II)I"⟩, 32), (⟨"StopPressModel", "isCollated", "()Z"⟩, 32), (⟨"StopPressModel", "stepsOf", "(I)I"⟩, 32), (⟨"StopPressModel", "stepNow", "(III)I"⟩, 32), (⟨"StopPressModel", "copyNow", "(II)I"⟩, 32), (⟨"StopPressModel", "layStates", "()V"⟩, 32), (⟨"StopPressModel", "layReading", "(I)V"⟩, 32), (⟨"StopPressModel", "unlike", "(II)I"⟩, 32), (⟨"StopPressModel", "places", "()I"⟩, 32)]
theorem lw_r3 : ∀ q ∈ lw_privs_3, lw_okq q := List.forall_mem_cons.mpr ⟨lw_p32, List.forall_mem_cons.mpr ⟨lw_p33, List.forall_mem_cons.mpr ⟨lw_p34, List.forall_mem_cons.mpr ⟨lw_p35, List.forall_mem_cons.mpr ⟨lw_p36, List.forall_mem_cons.mpr ⟨lw_p37, List.forall_mem_cons.mpr ⟨lw_p38, List.forall_mem_cons.mpr ⟨lw_p39, List.forall_mem_cons.mpr ⟨lw_p40, List.forall_mem_cons.mpr ⟨lw_p41, List.forall_mem_cons.mpr ⟨lw_p42, List.forall_mem_cons.mpr ⟨lw_p43, List.forall_mem_cons.mpr ⟨lw_p44, List.forall_mem_cons.mpr ⟨lw_p45, List.forall_mem_cons.mpr ⟨lw_p46, List.forall_mem_cons.mpr ⟨lw_p47, fun _ h => absurd h List.not_mem_nil⟩⟩⟩⟩⟩⟩⟩⟩⟩⟩⟩⟩⟩⟩⟩⟩
theorem lw_p48 : lw_okq (⟨"StopPressModel", "layTree", "()V"⟩, 32) := ⟨⟨by decide +kernel, by decide +kernel⟩, List.mem_of_getElem? (i := 802) (by decide +kernel), List.mem_of_getElem? (i := 1016) (by decide +kernel), List.mem_of_getElem? (i := 1017) (by decide +kernel)⟩
theorem lw_p49 : lw_okq (⟨"StopPressModel", "farNow", "(II)I"⟩, 32) := ⟨⟨by decide +kernel, by decide +kernel⟩, List.mem_of_getElem? (i := 802) (by decide +kernel), List.mem_of_getElem? (i := 1020) (by decide +kernel), List.mem_of_getElem? (i := 1021) (by decide +kernel)⟩
theorem lw_p50 : lw_okq (⟨"StopPressModel", "costOf", "(I)I"⟩, 32) := ⟨⟨by decide +kernel, by decide +kernel⟩, List.mem_of_getElem? (i := 802) (by decide +kernel), List.mem_of_getElem? (i := 1024) (by decide +kernel), List.mem_of_getElem? (i := 1025) (by decide +kernel)⟩
theorem lw_p51 : lw_okq (⟨"StopPressModel", "moreOf", "(I)I"⟩, 32) := ⟨⟨by decide +kernel, by decide +kernel⟩, List.mem_of_getElem? (i := 802) (by decide +kernel), List.mem_of_getElem? (i := 1028) (by decide +kernel), List.mem_of_getElem? (i := 1029) (by decide +kernel)⟩
theorem lw_p52 : lw_okq (⟨"StopPressModel", "otherReadings", "(I)I"⟩, 32) := ⟨⟨by decide +kernel, by decide +kernel⟩, List.mem_of_getElem? (i := 802) (by decide +kernel), List.mem_of_getElem? (i := 1032) (by decide +kernel), List.mem_of_getElem? (i := 1033) (by decide +kernel)⟩
theorem lw_p53 : lw_okq (⟨"StopPressModel", "statesNow", "(I)I"⟩, 32) := ⟨⟨by decide +kernel, by decide +kernel⟩, List.mem_of_getElem? (i := 802) (by decide +kernel), List.mem_of_getElem? (i := 1048) (by decide +kernel), List.mem_of_getElem? (i := 1049) (by decide +kernel)⟩
theorem lw_p54 : lw_okq (⟨"StopPressModel", "outMany", "()I"⟩, 32) := ⟨⟨by decide +kernel, by decide +kernel⟩, List.mem_of_getElem? (i := 802) (by decide +kernel), List.mem_of_getElem? (i := 1052) (by decide +kernel), List.mem_of_getElem? (i := 1053) (by decide +kernel)⟩
theorem lw_p55 : lw_okq (⟨"StopPressModel", "changes", "()I"⟩, 32) := ⟨⟨by decide +kernel, by decide +kernel⟩, List.mem_of_getElem? (i := 802) (by decide +kernel), List.mem_of_getElem? (i := 1056) (by decide +kernel), List.mem_of_getElem? (i := 1057) (by decide +kernel)⟩
theorem lw_p56 : lw_okq (⟨"StopPressModel", "unlikePlaces", "()I"⟩, 32) := ⟨⟨by decide +kernel, by decide +kernel⟩, List.mem_of_getElem? (i := 802) (by decide +kernel), List.mem_of_getElem? (i := 1060) (by decide +kernel), List.mem_of_getElem? (i := 1061) (by decide +kernel)⟩
theorem lw_p57 : lw_okq (⟨"StopPressModel", "readingOf", "(II)I"⟩, 32) := ⟨⟨by decide +kernel, by decide +kernel⟩, List.mem_of_getElem? (i := 802) (by decide +kernel), List.mem_of_getElem? (i := 1064) (by decide +kernel), List.mem_of_getElem? (i := 1065) (by decide +kernel)⟩
theorem lw_p58 : lw_okq (⟨"StopPressModel", "turnedAll", "()I"⟩, 32) := ⟨⟨by decide +kernel, by decide +kernel⟩, List.mem_of_getElem? (i := 802) (by decide +kernel), List.mem_of_getElem? (i := 1068) (by decide +kernel), List.mem_of_getElem? (i := 1069) (by decide +kernel)⟩
theorem lw_p59 : lw_okq (⟨"StopPressModel", "turnedMany", "(I)I"⟩, 32) := ⟨⟨by decide +kernel, by decide +kernel⟩, List.mem_of_getElem? (i := 802) (by decide +kernel), List.mem_of_getElem? (i := 1072) (by decide +kernel), List.mem_of_getElem? (i := 1073) (by decide +kernel)⟩
theorem lw_p60 : lw_okq (⟨"StopPressModel", "isTurned", "(II)Z"⟩, 32) := ⟨⟨by decide +kernel, by decide +kernel⟩, List.mem_of_getElem? (i := 802) (by decide +kernel), List.mem_of_getElem? (i := 1076) (by decide +kernel), List.mem_of_getElem? (i := 1077) (by decide +kernel)⟩
theorem lw_p61 : lw_okq (⟨"StopPressModel", "childless", "()I"⟩, 32) := ⟨⟨by decide +kernel, by decide +kernel⟩, List.mem_of_getElem? (i := 802) (by decide +kernel), List.mem_of_getElem? (i := 1080) (by decide +kernel), List.mem_of_getElem? (i := 1081) (by decide +kernel)⟩
theorem lw_p62 : lw_okq (⟨"StopPressModel", "stateNow", "(II)I"⟩, 32) := ⟨⟨by decide +kernel, by decide +kernel⟩, List.mem_of_getElem? (i := 802) (by decide +kernel), List.mem_of_getElem? (i := 1088) (by decide +kernel), List.mem_of_getElem? (i := 1089) (by decide +kernel)⟩
theorem lw_p63 : lw_okq (⟨"StopPressModel", "tellState", "(II)I"⟩, 32) := ⟨⟨by decide +kernel, by decide +kernel⟩, List.mem_of_getElem? (i := 802) (by decide +kernel), List.mem_of_getElem? (i := 1092) (by decide +kernel), List.mem_of_getElem? (i := 1093) (by decide +kernel)⟩
def lw_privs_4 : List (MethodName × Nat) := [(⟨"StopPressModel", "layTree", "()V"⟩, 32), (⟨"StopPressModel", "farNow", "(II)I"⟩, 32), (⟨"StopPressModel", "costOf", "(I)I"⟩, 32), (⟨"StopPressModel", "moreOf", "(I)I"⟩, 32), (⟨"StopPressModel", "otherReadings", "(I)I"⟩, 32), (⟨"StopPressModel", "statesNow", "(I)I"⟩, 32), (⟨"StopPressModel", "outMany", "()I"⟩, 32), (⟨"StopPressModel", "changes", "()I"⟩, 32), (⟨"StopPressModel", "unlikePlaces", "()I"⟩, 32), (⟨"StopPressModel", "readingOf", "(II)I"⟩, 32), (⟨"StopPressModel", "turnedAll", "()I"⟩, 32), (⟨"StopPressModel", "turnedMany", "(I)I"⟩, 32), (⟨"StopPressModel", "isTurned", "(II)Z"⟩, 32), (⟨"StopPressModel", "childless", "()I"⟩, 32), (⟨"StopPressModel", "stateNow", "(II)I"⟩, 32), (⟨"StopPressModel", "tellState", "(II)I"⟩, 32)]
theorem lw_r4 : ∀ q ∈ lw_privs_4, lw_okq q := List.forall_mem_cons.mpr ⟨lw_p48, List.forall_mem_cons.mpr ⟨lw_p49, List.forall_mem_cons.mpr ⟨lw_p50, List.forall_mem_cons.mpr ⟨lw_p51, List.forall_mem_cons.mpr ⟨lw_p52, List.forall_mem_cons.mpr ⟨lw_p53, List.forall_mem_cons.mpr ⟨lw_p54, List.forall_mem_cons.mpr ⟨lw_p55, List.forall_mem_cons.mpr ⟨lw_p56, List.forall_mem_cons.mpr ⟨lw_p57, List.forall_mem_cons.mpr ⟨lw_p58, List.forall_mem_cons.mpr ⟨lw_p59, List.forall_mem_cons.mpr ⟨lw_p60, List.forall_mem_cons.mpr ⟨lw_p61, List.forall_mem_cons.mpr ⟨lw_p62, List.forall_mem_cons.mpr ⟨lw_p63, fun _ h => absurd h List.not_mem_nil⟩⟩⟩⟩⟩⟩⟩⟩⟩⟩⟩⟩⟩⟩⟩⟩
theorem lw_p64 : lw_okq (⟨"StopPressModel", "copiesIn", "(I)I"⟩, 32) := ⟨⟨by decide +kernel, by decide +kernel⟩, List.mem_of_getElem? (i := 802) (by decide +kernel), List.mem_of_getElem? (i := 1096) (by decide +kernel), List.mem_of_getElem? (i := 1097) (by decide +kernel)⟩
theorem lw_p65 : lw_okq (⟨"StopPressModel", "above", "(I)I"⟩, 32) := ⟨⟨by decide +kernel, by decide +kernel⟩, List.mem_of_getElem? (i := 802) (by decide +kernel), List.mem_of_getElem? (i := 1100) (by decide +kernel), List.mem_of_getElem? (i := 1101) (by decide +kernel)⟩
theorem lw_p66 : lw_okq (⟨"StopPressModel", "isTaken", "(III)Z"⟩, 32) := ⟨⟨by decide +kernel, by decide +kernel⟩, List.mem_of_getElem? (i := 802) (by decide +kernel), List.mem_of_getElem? (i := 1116) (by decide +kernel), List.mem_of_getElem? (i := 1117) (by decide +kernel)⟩
theorem lw_p67 : lw_okq (⟨"StopPressModel", "isSighting", "(I)Z"⟩, 32) := ⟨⟨by decide +kernel, by decide +kernel⟩, List.mem_of_getElem? (i := 802) (by decide +kernel), List.mem_of_getElem? (i := 1124) (by decide +kernel), List.mem_of_getElem? (i := 1125) (by decide +kernel)⟩
theorem lw_p68 : lw_okq (⟨"StopPressModel", "sightingNow", "(II)I"⟩, 32) := ⟨⟨by decide +kernel, by decide +kernel⟩, List.mem_of_getElem? (i := 802) (by decide +kernel), List.mem_of_getElem? (i := 1132) (by decide +kernel), List.mem_of_getElem? (i := 1133) (by decide +kernel)⟩
theorem lw_p69 : lw_okq (⟨"StopPressModel", "orderAt", "(I)I"⟩, 32) := ⟨⟨by decide +kernel, by decide +kernel⟩, List.mem_of_getElem? (i := 802) (by decide +kernel), List.mem_of_getElem? (i := 1140) (by decide +kernel), List.mem_of_getElem? (i := 1141) (by decide +kernel)⟩
theorem lw_p70 : lw_okq (⟨"StopPressModel", "allSightings", "()I"⟩, 32) := ⟨⟨by decide +kernel, by decide +kernel⟩, List.mem_of_getElem? (i := 802) (by decide +kernel), List.mem_of_getElem? (i := 1144) (by decide +kernel), List.mem_of_getElem? (i := 1145) (by decide +kernel)⟩
theorem lw_p71 : lw_okq (⟨"StopPressModel", "orders", "(I)I"⟩, 32) := ⟨⟨by decide +kernel, by decide +kernel⟩, List.mem_of_getElem? (i := 802) (by decide +kernel), List.mem_of_getElem? (i := 1148) (by decide +kernel), List.mem_of_getElem? (i := 1149) (by decide +kernel)⟩
theorem lw_p72 : lw_okq (⟨"StopPressModel", "layAhead", "(I)V"⟩, 32) := ⟨⟨by decide +kernel, by decide +kernel⟩, List.mem_of_getElem? (i := 802) (by decide +kernel), List.mem_of_getElem? (i := 1152) (by decide +kernel), List.mem_of_getElem? (i := 1153) (by decide +kernel)⟩
theorem lw_p73 : lw_okq (⟨"StopPressModel", "layWays", "()V"⟩, 32) := ⟨⟨by decide +kernel, by decide +kernel⟩, List.mem_of_getElem? (i := 802) (by decide +kernel), List.mem_of_getElem? (i := 1159) (by decide +kernel), List.mem_of_getElem? (i := 1160) (by decide +kernel)⟩
theorem lw_p74 : lw_okq (⟨"StopPressModel", "canBeFirst", "(II)Z"⟩, 32) := ⟨⟨by decide +kernel, by decide +kernel⟩, List.mem_of_getElem? (i := 802) (by decide +kernel), List.mem_of_getElem? (i := 1163) (by decide +kernel), List.mem_of_getElem? (i := 1164) (by decide +kernel)⟩
theorem lw_p75 : lw_okq (⟨"StopPressModel", "formeNow", "(II)I"⟩, 32) := ⟨⟨by decide +kernel, by decide +kernel⟩, List.mem_of_getElem? (i := 802) (by decide +kernel), List.mem_of_getElem? (i := 1174) (by decide +kernel), List.mem_of_getElem? (i := 1175) (by decide +kernel)⟩
theorem lw_p76 : lw_okq (⟨"StopPressModel", "onForme", "(I)I"⟩, 32) := ⟨⟨by decide +kernel, by decide +kernel⟩, List.mem_of_getElem? (i := 802) (by decide +kernel), List.mem_of_getElem? (i := 1178) (by decide +kernel), List.mem_of_getElem? (i := 1179) (by decide +kernel)⟩
theorem lw_p77 : lw_okq (⟨"StopPressModel", "togetherWith", "(I)I"⟩, 32) := ⟨⟨by decide +kernel, by decide +kernel⟩, List.mem_of_getElem? (i := 802) (by decide +kernel), List.mem_of_getElem? (i := 1182) (by decide +kernel), List.mem_of_getElem? (i := 1183) (by decide +kernel)⟩
theorem lw_p78 : lw_okq (⟨"StopPressModel", "typesOn", "(I)I"⟩, 32) := ⟨⟨by decide +kernel, by decide +kernel⟩, List.mem_of_getElem? (i := 802) (by decide +kernel), List.mem_of_getElem? (i := 1186) (by decide +kernel), List.mem_of_getElem? (i := 1187) (by decide +kernel)⟩
theorem lw_p79 : lw_okq (⟨"StopPressModel", "placeOf", "(I)I"⟩, 32) := ⟨⟨by decide +kernel, by decide +kernel⟩, List.mem_of_getElem? (i := 802) (by decide +kernel), List.mem_of_getElem? (i := 1190) (by decide +kernel), List.mem_of_getElem? (i := 1191) (by decide +kernel)⟩
def lw_privs_5 : List (MethodName × Nat) := [(⟨"StopPressModel", "copiesIn", "(I)I"⟩, 32), (⟨"StopPressModel", "above", "(I)I"⟩, 32), (⟨"StopPressModel", "isTaken", "(III)Z"⟩, 32), (⟨"StopPressModel", "isSighting", "(I)Z"⟩, 32), (⟨"StopPressModel", "sightingNow", "(II)I"⟩, 32), (⟨"StopPressModel", "orderAt", "(I)I"⟩, 32), (⟨"StopPressModel", "allSightings", "()I"⟩, 32), (⟨"StopPressModel", "orders", "(I)I"⟩, 32), (⟨"StopPressModel", "layAhead", "(I)V"⟩, 32), (⟨"StopPressModel", "layWays", "()V"⟩, 32), (⟨"StopPressModel", "canBeFirst", "(II)Z"⟩, 32), (⟨"StopPressModel", "formeNow", "(II)I"⟩, 32), (⟨"StopPressModel", "onForme", "(I)I"⟩, 32), (⟨"StopPressModel", "togetherWith", "(I)I"⟩, 32), (⟨"StopPressModel", "typesOn", "(I)I"⟩, 32), (⟨"StopPressModel", "placeOf", "(I)I"⟩, 32)]
theorem lw_r5 : ∀ q ∈ lw_privs_5, lw_okq q := List.forall_mem_cons.mpr ⟨lw_p64, List.forall_mem_cons.mpr ⟨lw_p65, List.forall_mem_cons.mpr ⟨lw_p66, List.forall_mem_cons.mpr ⟨lw_p67, List.forall_mem_cons.mpr ⟨lw_p68, List.forall_mem_cons.mpr ⟨lw_p69, List.forall_mem_cons.mpr ⟨lw_p70, List.forall_mem_cons.mpr ⟨lw_p71, List.forall_mem_cons.mpr ⟨lw_p72, List.forall_mem_cons.mpr ⟨lw_p73, List.forall_mem_cons.mpr ⟨lw_p74, List.forall_mem_cons.mpr ⟨lw_p75, List.forall_mem_cons.mpr ⟨lw_p76, List.forall_mem_cons.mpr ⟨lw_p77, List.forall_mem_cons.mpr ⟨lw_p78, List.forall_mem_cons.mpr ⟨lw_p79, fun _ h => absurd h List.not_mem_nil⟩⟩⟩⟩⟩⟩⟩⟩⟩⟩⟩⟩⟩⟩⟩⟩
theorem lw_p80 : lw_okq (⟨"StopPressModel", "pressNow", "(I)I"⟩, 32) := ⟨⟨by decide +kernel, by decide +kernel⟩, List.mem_of_getElem? (i := 802) (by decide +kernel), List.mem_of_getElem? (i := 1194) (by decide +kernel), List.mem_of_getElem? (i := 1195) (by decide +kernel)⟩
theorem lw_p81 : lw_okq (⟨"StopPressModel", "layPresses", "()V"⟩, 32) := ⟨⟨by decide +kernel, by decide +kernel⟩, List.mem_of_getElem? (i := 802) (by decide +kernel), List.mem_of_getElem? (i := 1198) (by decide +kernel), List.mem_of_getElem? (i := 1199) (by decide +kernel)⟩
theorem lw_p82 : lw_okq (⟨"StopPressModel", "findsRoom", "(I)Z"⟩, 32) := ⟨⟨by decide +kernel, by decide +kernel⟩, List.mem_of_getElem? (i := 802) (by decide +kernel), List.mem_of_getElem? (i := 1202) (by decide +kernel), List.mem_of_getElem? (i := 1203) (by decide +kernel)⟩
theorem lw_p83 : lw_okq (⟨"StopPressModel", "goesOn", "(I)I"⟩, 32) := ⟨⟨by decide +kernel, by decide +kernel⟩, List.mem_of_getElem? (i := 802) (by decide +kernel), List.mem_of_getElem? (i := 1206) (by decide +kernel), List.mem_of_getElem? (i := 1207) (by decide +kernel)⟩
theorem lw_p84 : lw_okq (⟨"StopPressModel", "goesBack", "(I)I"⟩, 32) := ⟨⟨by decide +kernel, by decide +kernel⟩, List.mem_of_getElem? (i := 802) (by decide +kernel), List.mem_of_getElem? (i := 1210) (by decide +kernel), List.mem_of_getElem? (i := 1211) (by decide +kernel)⟩
theorem lw_p85 : lw_okq (⟨"StopPressModel", "mayBeOn", "(II)Z"⟩, 32) := ⟨⟨by decide +kernel, by decide +kernel⟩, List.mem_of_getElem? (i := 802) (by decide +kernel), List.mem_of_getElem? (i := 1214) (by decide +kernel), List.mem_of_getElem? (i := 1215) (by decide +kernel)⟩
theorem lw_p86 : lw_okq (⟨"StopPressModel", "formesNow", "(I)I"⟩, 32) := ⟨⟨by decide +kernel, by decide +kernel⟩, List.mem_of_getElem? (i := 802) (by decide +kernel), List.mem_of_getElem? (i := 1222) (by decide +kernel), List.mem_of_getElem? (i := 1223) (by decide +kernel)⟩
theorem lw_p87 : lw_okq (⟨"StopPressModel", "faultNow", "()I"⟩, 32) := ⟨⟨by decide +kernel, by decide +kernel⟩, List.mem_of_getElem? (i := 802) (by decide +kernel), List.mem_of_getElem? (i := 1226) (by decide +kernel), List.mem_of_getElem? (i := 1227) (by decide +kernel)⟩
theorem lw_p88 : lw_okq (⟨"StopPressModel", "pressesNow", "()I"⟩, 32) := ⟨⟨by decide +kernel, by decide +kernel⟩, List.mem_of_getElem? (i := 802) (by decide +kernel), List.mem_of_getElem? (i := 1230) (by decide +kernel), List.mem_of_getElem? (i := 1231) (by decide +kernel)⟩
theorem lw_p89 : lw_okq (⟨"StopPressModel", "typesSeen", "()I"⟩, 32) := ⟨⟨by decide +kernel, by decide +kernel⟩, List.mem_of_getElem? (i := 802) (by decide +kernel), List.mem_of_getElem? (i := 1234) (by decide +kernel), List.mem_of_getElem? (i := 1235) (by decide +kernel)⟩
theorem lw_p90 : lw_okq (⟨"StopPressModel", "howMany", "(I)I"⟩, 32) := ⟨⟨by decide +kernel, by decide +kernel⟩, List.mem_of_getElem? (i := 802) (by decide +kernel), List.mem_of_getElem? (i := 1242) (by decide +kernel), List.mem_of_getElem? (i := 1243) (by decide +kernel)⟩
theorem lw_p91 : lw_okq (⟨"StopPressModel", "mixCopies", "()V"⟩, 32) := ⟨⟨by decide +kernel, by decide +kernel⟩, List.mem_of_getElem? (i := 802) (by decide +kernel), List.mem_of_getElem? (i := 1251) (by decide +kernel), List.mem_of_getElem? (i := 1252) (by decide +kernel)⟩
theorem lw_p92 : lw_okq (⟨"StopPressModel", "mix", "(J)V"⟩, 32) := ⟨⟨by decide +kernel, by decide +kernel⟩, List.mem_of_getElem? (i := 802) (by decide +kernel), List.mem_of_getElem? (i := 1255) (by decide +kernel), List.mem_of_getElem? (i := 1256) (by decide +kernel)⟩
theorem lw_p93 : lw_okq (⟨"StopPressModel", "mixStates", "()V"⟩, 32) := ⟨⟨by decide +kernel, by decide +kernel⟩, List.mem_of_getElem? (i := 802) (by decide +kernel), List.mem_of_getElem? (i := 1260) (by decide +kernel), List.mem_of_getElem? (i := 1261) (by decide +kernel)⟩
theorem lw_p94 : lw_okq (⟨"StopPressModel", "mixFormes", "()V"⟩, 32) := ⟨⟨by decide +kernel, by decide +kernel⟩, List.mem_of_getElem? (i := 802) (by decide +kernel), List.mem_of_getElem? (i := 1264) (by decide +kernel), List.mem_of_getElem? (i := 1265) (by decide +kernel)⟩
def lw_privs_6 : List (MethodName × Nat) := [(⟨"StopPressModel", "pressNow", "(I)I"⟩, 32), (⟨"StopPressModel", "layPresses", "()V"⟩, 32), (⟨"StopPressModel", "findsRoom", "(I)Z"⟩, 32), (⟨"StopPressModel", "goesOn", "(I)I"⟩, 32), (⟨"StopPressModel", "goesBack", "(I)I"⟩, 32), (⟨"StopPressModel", "mayBeOn", "(II)Z"⟩, 32), (⟨"StopPressModel", "formesNow", "(I)I"⟩, 32), (⟨"StopPressModel", "faultNow", "()I"⟩, 32), (⟨"StopPressModel", "pressesNow", "()I"⟩, 32), (⟨"StopPressModel", "typesSeen", "()I"⟩, 32), (⟨"StopPressModel", "howMany", "(I)I"⟩, 32), (⟨"StopPressModel", "mixCopies", "()V"⟩, 32), (⟨"StopPressModel", "mix", "(J)V"⟩, 32), (⟨"StopPressModel", "mixStates", "()V"⟩, 32), (⟨"StopPressModel", "mixFormes", "()V"⟩, 32)]
theorem lw_r6 : ∀ q ∈ lw_privs_6, lw_okq q := List.forall_mem_cons.mpr ⟨lw_p80, List.forall_mem_cons.mpr ⟨lw_p81, List.forall_mem_cons.mpr ⟨lw_p82, List.forall_mem_cons.mpr ⟨lw_p83, List.forall_mem_cons.mpr ⟨lw_p84, List.forall_mem_cons.mpr ⟨lw_p85, List.forall_mem_cons.mpr ⟨lw_p86, List.forall_mem_cons.mpr ⟨lw_p87, List.forall_mem_cons.mpr ⟨lw_p88, List.forall_mem_cons.mpr ⟨lw_p89, List.forall_mem_cons.mpr ⟨lw_p90, List.forall_mem_cons.mpr ⟨lw_p91, List.forall_mem_cons.mpr ⟨lw_p92, List.forall_mem_cons.mpr ⟨lw_p93, List.forall_mem_cons.mpr ⟨lw_p94, fun _ h => absurd h List.not_mem_nil⟩⟩⟩⟩⟩⟩⟩⟩⟩⟩⟩⟩⟩⟩⟩
def lw_privs : List (MethodName × Nat) := lw_privs_1 ++ (lw_privs_2 ++ (lw_privs_3 ++ (lw_privs_4 ++ (lw_privs_5 ++ (lw_privs_6)))))
def lw_tbl : List Cond := k2_sels lw_privs ++ tables_1
theorem lw_privs_ok : ∀ q ∈ lw_privs, lw_okq q := by
  show ∀ q ∈ lw_privs_1 ++ (lw_privs_2 ++ (lw_privs_3 ++ (lw_privs_4 ++ (lw_privs_5 ++ (lw_privs_6))))), lw_okq q
  exact List.forall_mem_append.mpr ⟨lw_r1, List.forall_mem_append.mpr ⟨lw_r2, List.forall_mem_append.mpr ⟨lw_r3, List.forall_mem_append.mpr ⟨lw_r4, List.forall_mem_append.mpr ⟨lw_r5, lw_r6⟩⟩⟩⟩⟩
end
section
def RX0 : String := "StopPress$Aligner"
def TX0 : u_T := fun k => match k with
  | _ => ("StopPress$Aligner", "least", "[I", true)
def tyX0 : Nat → FieldType := fun k => match k with
  | _ => .array .int
abbrev wsX00 : List Cond := u_ws RX0 TX0 1
theorem nmX0 : ∀ a, a < 1 → ∀ b, b < 1 → a ≠ b → (TX0 a).2.1 ≠ (TX0 b).2.1 := by decide +kernel
theorem tyX0_ok : ∀ k, k < 1 → parseFieldDescriptor (TX0 k).2.2.1 = some (tyX0 k) := by decide +kernel
def RX1 : String := "StopPress$Alignment"
def TX1 : u_T := fun k => match k with
  | 0 => ("StopPress$Alignment", "steps", "[I", true)
  | 1 => ("StopPress$Alignment", "tallies", "[I", true)
  | 2 => ("StopPress$Alignment", "known", "Z", false)
  | _ => ("StopPress$Alignment", "found", "Z", false)
def tyX1 : Nat → FieldType := fun k => match k with
  | 0 => .array .int
  | 1 => .array .int
  | 2 => .boolean
  | _ => .boolean
abbrev wsX10 : List Cond := u_ws RX1 TX1 4
theorem nmX1 : ∀ a, a < 4 → ∀ b, b < 4 → a ≠ b → (TX1 a).2.1 ≠ (TX1 b).2.1 := by decide +kernel
theorem tyX1_ok : ∀ k, k < 4 → parseFieldDescriptor (TX1 k).2.2.1 = some (tyX1 k) := by decide +kernel
def RX2 : String := "StopPress$Chronology"
def TX2 : u_T := fun k => match k with
  | 0 => ("StopPress$Chronology", "typesOn", "[I", true)
  | 1 => ("StopPress$Chronology", "companions", "[I", true)
  | 2 => ("StopPress$Chronology", "ahead", "[I", true)
  | 3 => ("StopPress$Chronology", "ways", "[I", true)
  | 4 => ("StopPress$Chronology", "first", "[I", true)
  | 5 => ("StopPress$Chronology", "seenSet", "I", false)
  | 6 => ("StopPress$Chronology", "orders", "I", false)
  | _ => ("StopPress$Chronology", "builtFor", "I", false)
def tyX2 : Nat → FieldType := fun k => match k with
  | 0 => .array .int
  | 1 => .array .int
  | 2 => .array .int
  | 3 => .array .int
  | 4 => .array .int
  | 5 => .int
  | 6 => .int
  | _ => .int
abbrev wsX20 : List Cond := u_ws RX2 TX2 8
theorem nmX2 : ∀ a, a < 8 → ∀ b, b < 8 → a ≠ b → (TX2 a).2.1 ≠ (TX2 b).2.1 := by decide +kernel
theorem tyX2_ok : ∀ k, k < 8 → parseFieldDescriptor (TX2 k).2.2.1 = some (tyX2 k) := by decide +kernel
def RX3 : String := "StopPress$Collation"
def TX3 : u_T := fun k => match k with
  | 0 => ("StopPress$Collation", "texts", "[LStopPress$Text;", true)
  | 1 => ("StopPress$Collation", "alignments", "[LStopPress$Alignment;", true)
  | 2 => ("StopPress$Collation", "aligner", "LStopPress$Aligner;", true)
  | 3 => ("StopPress$Collation", "size", "I", false)
  | 4 => ("StopPress$Collation", "reach", "I", false)
  | _ => ("StopPress$Collation", "changes", "I", false)
def tyX3 : Nat → FieldType := fun k => match k with
  | 0 => .array (.object "StopPress$Text")
  | 1 => .array (.object "StopPress$Alignment")
  | 2 => .object "StopPress$Aligner"
  | 3 => .int
  | 4 => .int
  | _ => .int
abbrev wsX30 : List Cond := u_ws RX3 TX3 6
theorem nmX3 : ∀ a, a < 6 → ∀ b, b < 6 → a ≠ b → (TX3 a).2.1 ≠ (TX3 b).2.1 := by decide +kernel
theorem tyX3_ok : ∀ k, k < 6 → parseFieldDescriptor (TX3 k).2.2.1 = some (tyX3 k) := by decide +kernel
def RX4 : String := "StopPress$Fault"
def TX4 : u_T := fun k => match k with
  | 0 => ("StopPress$Fault", "pair", "[I", true)
  | 1 => ("StopPress$Fault", "sooner", "[I", true)
  | 2 => ("StopPress$Fault", "later", "[I", true)
  | 3 => ("StopPress$Fault", "ahead", "[I", true)
  | 4 => ("StopPress$Fault", "pairs", "I", false)
  | 5 => ("StopPress$Fault", "set", "I", false)
  | _ => ("StopPress$Fault", "builtFor", "I", false)
def tyX4 : Nat → FieldType := fun k => match k with
  | 0 => .array .int
  | 1 => .array .int
  | 2 => .array .int
  | 3 => .array .int
  | 4 => .int
  | 5 => .int
  | _ => .int
abbrev wsX40 : List Cond := u_ws RX4 TX4 7
theorem nmX4 : ∀ a, a < 7 → ∀ b, b < 7 → a ≠ b → (TX4 a).2.1 ≠ (TX4 b).2.1 := by decide +kernel
theorem tyX4_ok : ∀ k, k < 7 → parseFieldDescriptor (TX4 k).2.2.1 = some (tyX4 k) := by decide +kernel
def RX5 : String := "StopPress$Presses"
def TX5 : u_T := fun k => match k with
  | 0 => ("StopPress$Presses", "pressOf", "[I", true)
  | 1 => ("StopPress$Presses", "number", "I", false)
  | _ => ("StopPress$Presses", "builtFor", "I", false)
def tyX5 : Nat → FieldType := fun k => match k with
  | 0 => .array .int
  | 1 => .int
  | _ => .int
abbrev wsX50 : List Cond := u_ws RX5 TX5 3
theorem nmX5 : ∀ a, a < 3 → ∀ b, b < 3 → a ≠ b → (TX5 a).2.1 ≠ (TX5 b).2.1 := by decide +kernel
theorem tyX5_ok : ∀ k, k < 3 → parseFieldDescriptor (TX5 k).2.2.1 = some (tyX5 k) := by decide +kernel
def RX6 : String := "StopPress$Sightings"
def TX6 : u_T := fun k => match k with
  | 0 => ("StopPress$Sightings", "rows", "[[I", true)
  | 1 => ("StopPress$Sightings", "size", "I", false)
  | _ => ("StopPress$Sightings", "changes", "I", false)
def tyX6 : Nat → FieldType := fun k => match k with
  | 0 => .array (.array .int)
  | 1 => .int
  | _ => .int
abbrev wsX60 : List Cond := u_ws RX6 TX6 3
theorem nmX6 : ∀ a, a < 3 → ∀ b, b < 3 → a ≠ b → (TX6 a).2.1 ≠ (TX6 b).2.1 := by decide +kernel
theorem tyX6_ok : ∀ k, k < 3 → parseFieldDescriptor (TX6 k).2.2.1 = some (tyX6 k) := by decide +kernel
def RX7 : String := "StopPress$Stemma"
def TX7 : u_T := fun k => match k with
  | 0 => ("StopPress$Stemma", "readings", "[[I", true)
  | 1 => ("StopPress$Stemma", "stateOfCopy", "[I", true)
  | 2 => ("StopPress$Stemma", "firstCopy", "[I", true)
  | 3 => ("StopPress$Stemma", "members", "[I", true)
  | 4 => ("StopPress$Stemma", "parent", "[I", true)
  | 5 => ("StopPress$Stemma", "distanceUp", "[I", true)
  | 6 => ("StopPress$Stemma", "joined", "[I", true)
  | 7 => ("StopPress$Stemma", "reverted", "[I", true)
  | 8 => ("StopPress$Stemma", "size", "I", false)
  | 9 => ("StopPress$Stemma", "places", "I", false)
  | 10 => ("StopPress$Stemma", "excluded", "I", false)
  | _ => ("StopPress$Stemma", "builtFor", "I", false)
def tyX7 : Nat → FieldType := fun k => match k with
  | 0 => .array (.array .int)
  | 1 => .array .int
  | 2 => .array .int
  | 3 => .array .int
  | 4 => .array .int
  | 5 => .array .int
  | 6 => .array .int
  | 7 => .array .int
  | 8 => .int
  | 9 => .int
  | 10 => .int
  | _ => .int
abbrev wsX70 : List Cond := u_ws RX7 TX7 12
theorem nmX7 : ∀ a, a < 12 → ∀ b, b < 12 → a ≠ b → (TX7 a).2.1 ≠ (TX7 b).2.1 := by decide +kernel
theorem tyX7_ok : ∀ k, k < 12 → parseFieldDescriptor (TX7 k).2.2.1 = some (tyX7 k) := by decide +kernel
def RX8 : String := "StopPress$Text"
def TX8 : u_T := fun k => match k with
  | 0 => ("StopPress$Text", "codes", "[I", true)
  | _ => ("StopPress$Text", "length", "I", false)
def tyX8 : Nat → FieldType := fun k => match k with
  | 0 => .array .int
  | _ => .int
abbrev wsX80 : List Cond := u_ws RX8 TX8 2
theorem nmX8 : ∀ a, a < 2 → ∀ b, b < 2 → a ≠ b → (TX8 a).2.1 ≠ (TX8 b).2.1 := by decide +kernel
theorem tyX8_ok : ∀ k, k < 2 → parseFieldDescriptor (TX8 k).2.2.1 = some (tyX8 k) := by decide +kernel
def RX9 : String := "StopPress"
def TX9 : u_T := fun k => match k with
  | 0 => ("StopPress", "page", "LStopPress$Text;", true)
  | 1 => ("StopPress", "collation", "LStopPress$Collation;", true)
  | 2 => ("StopPress", "stemma", "LStopPress$Stemma;", true)
  | 3 => ("StopPress", "sightings", "LStopPress$Sightings;", true)
  | 4 => ("StopPress", "chronology", "LStopPress$Chronology;", true)
  | 5 => ("StopPress", "fault", "LStopPress$Fault;", true)
  | 6 => ("StopPress", "presses", "LStopPress$Presses;", true)
  | 7 => ("StopPress", "copiesTaken", "I", false)
  | _ => ("StopPress", "sightingsRemoved", "I", false)
def tyX9 : Nat → FieldType := fun k => match k with
  | 0 => .object "StopPress$Text"
  | 1 => .object "StopPress$Collation"
  | 2 => .object "StopPress$Stemma"
  | 3 => .object "StopPress$Sightings"
  | 4 => .object "StopPress$Chronology"
  | 5 => .object "StopPress$Fault"
  | 6 => .object "StopPress$Presses"
  | 7 => .int
  | _ => .int
abbrev wsX90 : List Cond := u_ws RX9 TX9 9
theorem nmX9 : ∀ a, a < 9 → ∀ b, b < 9 → a ≠ b → (TX9 a).2.1 ≠ (TX9 b).2.1 := by decide +kernel
theorem tyX9_ok : ∀ k, k < 9 → parseFieldDescriptor (TX9 k).2.2.1 = some (tyX9 k) := by decide +kernel
def RX10 : String := "StopPressModel"
def TX10 : u_T := fun k => match k with
  | 0 => ("StopPressModel", "pageLength", "I", false)
  | 1 => ("StopPressModel", "page", "[I", true)
  | 2 => ("StopPressModel", "copies", "I", false)
  | 3 => ("StopPressModel", "lengthOf", "[I", true)
  | 4 => ("StopPressModel", "letters", "[I", true)
  | 5 => ("StopPressModel", "bandNow", "I", false)
  | 6 => ("StopPressModel", "copiesRead", "I", false)
  | 7 => ("StopPressModel", "sightings", "I", false)
  | 8 => ("StopPressModel", "typeOf", "[I", true)
  | 9 => ("StopPressModel", "formeOf", "[I", true)
  | 10 => ("StopPressModel", "spotOf", "[I", true)
  | 11 => ("StopPressModel", "wearOf", "[I", true)
  | 12 => ("StopPressModel", "wentEver", "I", false)
  | 13 => ("StopPressModel", "costs", "[I", true)
  | 14 => ("StopPressModel", "stepMany", "I", false)
  | 15 => ("StopPressModel", "steps", "[I", true)
  | 16 => ("StopPressModel", "laidOne", "I", false)
  | 17 => ("StopPressModel", "laidOther", "I", false)
  | 18 => ("StopPressModel", "readings", "[I", true)
  | 19 => ("StopPressModel", "isOut", "[Z", true)
  | 20 => ("StopPressModel", "states", "I", false)
  | 21 => ("StopPressModel", "stateOf", "[I", true)
  | 22 => ("StopPressModel", "firstOf", "[I", true)
  | 23 => ("StopPressModel", "parentOf", "[I", true)
  | 24 => ("StopPressModel", "cameAs", "[I", true)
  | 25 => ("StopPressModel", "seenFormes", "I", false)
  | 26 => ("StopPressModel", "aheadOf", "[I", true)
  | 27 => ("StopPressModel", "waysOf", "[I", true)
  | 28 => ("StopPressModel", "pressMany", "I", false)
  | 29 => ("StopPressModel", "pressOf", "[I", true)
  | 30 => ("StopPressModel", "together", "[I", true)
  | _ => ("StopPressModel", "h", "J", false)
def tyX10 : Nat → FieldType := fun k => match k with
  | 0 => .int
  | 1 => .array .int
  | 2 => .int
  | 3 => .array .int
  | 4 => .array .int
  | 5 => .int
  | 6 => .int
  | 7 => .int
  | 8 => .array .int
  | 9 => .array .int
  | 10 => .array .int
  | 11 => .array .int
  | 12 => .int
  | 13 => .array .int
  | 14 => .int
  | 15 => .array .int
  | 16 => .int
  | 17 => .int
  | 18 => .array .int
  | 19 => .array .boolean
  | 20 => .int
  | 21 => .array .int
  | 22 => .array .int
  | 23 => .array .int
  | 24 => .array .int
  | 25 => .int
  | 26 => .array .int
  | 27 => .array .int
  | 28 => .int
  | 29 => .array .int
  | 30 => .array .int
  | _ => .long
abbrev wsX100 : List Cond := u_ws RX10 TX10 32
theorem nmX10 : ∀ a, a < 32 → ∀ b, b < 32 → a ≠ b → (TX10 a).2.1 ≠ (TX10 b).2.1 := by decide +kernel
theorem tyX10_ok : ∀ k, k < 32 → parseFieldDescriptor (TX10 k).2.2.1 = some (tyX10 k) := by decide +kernel
def RJ6 : String := "java/lang/Integer"
def RJ9 : String := "java/lang/Math"
def RL : String := "StopPressLaw"
abbrev zD : Type := Nat × MethodName × ByteArray × Nat × Option FieldType
def zCn (c : Nat) : String := match c with
  | 0 => "StopPress$Aligner"
  | 1 => "StopPress$Alignment"
  | 2 => "StopPress$Chronology"
  | 3 => "StopPress$Collation"
  | 4 => "StopPress$Fault"
  | 5 => "StopPress$Presses"
  | 6 => "StopPress$Sightings"
  | 7 => "StopPress$Stemma"
  | 8 => "StopPress$Text"
  | 9 => "StopPress"
  | 10 => "StopPressModel"
  | 11 => "StopPressLaw"
  | 12 => "java/lang/Integer"
  | 13 => "java/lang/Math"
  | _ => "java/lang/Object"
def zm_P_init : zD := (9, ⟨"StopPress", "<init>", "()V"⟩, prog_1_method_1_code, 1, none)
def zm_Text_init : zD := (8, ⟨"StopPress$Text", "<init>", "()V"⟩, prog_10_method_1_code, 1, none)
def zm_Coll_init : zD := (3, ⟨"StopPress$Collation", "<init>", "()V"⟩, prog_5_method_1_code, 2, none)
def zm_Aligner_init : zD := (0, ⟨"StopPress$Aligner", "<init>", "()V"⟩, prog_2_method_1_code, 1, none)
def zm_Alignment_init : zD := (1, ⟨"StopPress$Alignment", "<init>", "()V"⟩, prog_3_method_1_code, 1, none)
def zm_Stemma_init : zD := (7, ⟨"StopPress$Stemma", "<init>", "()V"⟩, prog_9_method_1_code, 1, none)
def zm_Sight_init : zD := (6, ⟨"StopPress$Sightings", "<init>", "()V"⟩, prog_8_method_1_code, 1, none)
def zm_Chrono_init : zD := (2, ⟨"StopPress$Chronology", "<init>", "()V"⟩, prog_4_method_1_code, 1, none)
def zm_Fault_init : zD := (4, ⟨"StopPress$Fault", "<init>", "()V"⟩, prog_6_method_1_code, 1, none)
def zm_Presses_init : zD := (5, ⟨"StopPress$Presses", "<init>", "()V"⟩, prog_7_method_1_code, 1, none)
def zm_P_letter : zD := (9, ⟨"StopPress", "letter", "(I)I"⟩, prog_1_method_2_code, 2, some .int)
def zm_Text_size : zD := (8, ⟨"StopPress$Text", "size", "()I"⟩, prog_10_method_2_code, 1, some .int)
def zm_Text_append : zD := (8, ⟨"StopPress$Text", "append", "(I)V"⟩, prog_10_method_5_code, 2, none)
def zm_P_blank : zD := (9, ⟨"StopPress", "blank", "()I"⟩, prog_1_method_3_code, 2, some .int)
def zm_Text_clear : zD := (8, ⟨"StopPress$Text", "clear", "()V"⟩, prog_10_method_6_code, 1, none)
def zm_P_copy : zD := (9, ⟨"StopPress", "copy", "()I"⟩, prog_1_method_4_code, 2, some .int)
def zm_Text_isWord : zD := (8, ⟨"StopPress$Text", "isWord", "()Z"⟩, prog_10_method_8_code, 2, some .boolean)
def zm_Coll_size : zD := (3, ⟨"StopPress$Collation", "size", "()I"⟩, prog_5_method_2_code, 1, some .int)
def zm_Coll_put : zD := (3, ⟨"StopPress$Collation", "put", "(ILStopPress$Text;)V"⟩, prog_5_method_7_code, 4, none)
def zm_Math_max : zD := (13, ⟨"java/lang/Math", "max", "(II)I"⟩, prog_14_method_65_code, 2, some .int)
def zm_Text_takeFrom : zD := (8, ⟨"StopPress$Text", "takeFrom", "(LStopPress$Text;)V"⟩, prog_10_method_7_code, 3, none)
def zm_Text_at : zD := (8, ⟨"StopPress$Text", "at", "(I)I"⟩, prog_10_method_4_code, 2, some .int)
def zm_Alignment_forget : zD := (1, ⟨"StopPress$Alignment", "forget", "()V"⟩, prog_3_method_4_code, 1, none)
def zm_P_correct : zD := (9, ⟨"StopPress", "correct", "(I)I"⟩, prog_1_method_5_code, 3, some .int)
def zm_Coll_has : zD := (3, ⟨"StopPress$Collation", "has", "(I)Z"⟩, prog_5_method_5_code, 2, some .boolean)
def zm_Coll_text : zD := (3, ⟨"StopPress$Collation", "text", "(I)LStopPress$Text;"⟩, prog_5_method_6_code, 2, some (.object "StopPress$Text"))
def zm_P_drop : zD := (9, ⟨"StopPress", "drop", "()I"⟩, prog_1_method_6_code, 1, some .int)
def zm_Coll_removeLast : zD := (3, ⟨"StopPress$Collation", "removeLast", "()V"⟩, prog_5_method_8_code, 1, none)
def zm_P_band : zD := (9, ⟨"StopPress", "band", "(I)I"⟩, prog_1_method_7_code, 3, some .int)
def zm_Coll_reach : zD := (3, ⟨"StopPress$Collation", "reach", "()I"⟩, prog_5_method_3_code, 1, some .int)
def zm_Coll_setReach : zD := (3, ⟨"StopPress$Collation", "setReach", "(I)V"⟩, prog_5_method_9_code, 3, none)
def zm_P_of : zD := (9, ⟨"StopPress", "of", "(II)I"⟩, prog_1_method_8_code, 3, some .int)
def zm_Stemma_build : zD := (7, ⟨"StopPress$Stemma", "build", "(LStopPress$Collation;)V"⟩, prog_9_method_2_code, 4, none)
def zm_Coll_changes : zD := (3, ⟨"StopPress$Collation", "changes", "()I"⟩, prog_5_method_4_code, 1, some .int)
def zm_Coll_best : zD := (3, ⟨"StopPress$Collation", "best", "(II)LStopPress$Alignment;"⟩, prog_5_method_10_code, 5, some (.object "StopPress$Alignment"))
def zm_Alignment_isKnown : zD := (1, ⟨"StopPress$Alignment", "isKnown", "()Z"⟩, prog_3_method_2_code, 1, some .boolean)
def zm_Aligner_align : zD := (0, ⟨"StopPress$Aligner", "align", "(LStopPress$Text;LStopPress$Text;ILStopPress$Alignment;)V"⟩, prog_2_method_2_code, 6, none)
def zm_Math_abs : zD := (13, ⟨"java/lang/Math", "abs", "(I)I"⟩, prog_14_method_59_code, 1, some .int)
def zm_Alignment_begin : zD := (1, ⟨"StopPress$Alignment", "begin", "(Z)V"⟩, prog_3_method_5_code, 3, none)
def zm_Aligner_fill : zD := (0, ⟨"StopPress$Aligner", "fill", "(LStopPress$Text;LStopPress$Text;I)V"⟩, prog_2_method_3_code, 13, none)
def zm_Aligner_kindOfPair : zD := (0, ⟨"StopPress$Aligner", "kindOfPair", "(II)I"⟩, prog_2_method_5_code, 5, some .int)
def zm_Math_min : zD := (13, ⟨"java/lang/Math", "min", "(II)I"⟩, prog_14_method_69_code, 2, some .int)
def zm_Aligner_trace : zD := (0, ⟨"StopPress$Aligner", "trace", "(LStopPress$Text;LStopPress$Text;LStopPress$Alignment;)V"⟩, prog_2_method_4_code, 11, none)
def zm_Alignment_add : zD := (1, ⟨"StopPress$Alignment", "add", "(I)V"⟩, prog_3_method_6_code, 3, none)
def zm_Alignment_isFound : zD := (1, ⟨"StopPress$Alignment", "isFound", "()Z"⟩, prog_3_method_3_code, 1, some .boolean)
def zm_Stemma_read : zD := (7, ⟨"StopPress$Stemma", "read", "(ILStopPress$Text;LStopPress$Alignment;)V"⟩, prog_9_method_3_code, 8, none)
def zm_Alignment_length : zD := (1, ⟨"StopPress$Alignment", "length", "()I"⟩, prog_3_method_8_code, 1, some .int)
def zm_Alignment_stepAt : zD := (1, ⟨"StopPress$Alignment", "stepAt", "(I)I"⟩, prog_3_method_10_code, 2, some .int)
def zm_Alignment_hasStep : zD := (1, ⟨"StopPress$Alignment", "hasStep", "(I)Z"⟩, prog_3_method_9_code, 2, some .boolean)
def zm_Stemma_group : zD := (7, ⟨"StopPress$Stemma", "group", "(I)V"⟩, prog_9_method_4_code, 3, none)
def zm_Stemma_differences : zD := (7, ⟨"StopPress$Stemma", "differences", "(II)I"⟩, prog_9_method_14_code, 5, some .int)
def zm_Stemma_readingAt : zD := (7, ⟨"StopPress$Stemma", "readingAt", "(II)I"⟩, prog_9_method_13_code, 4, some .int)
def zm_Stemma_connect : zD := (7, ⟨"StopPress$Stemma", "connect", "()V"⟩, prog_9_method_5_code, 2, none)
def zm_Stemma_joinNearest : zD := (7, ⟨"StopPress$Stemma", "joinNearest", "(I)V"⟩, prog_9_method_6_code, 7, none)
def zm_Stemma_distance : zD := (7, ⟨"StopPress$Stemma", "distance", "(II)I"⟩, prog_9_method_15_code, 3, some .int)
def zm_Stemma_has : zD := (7, ⟨"StopPress$Stemma", "has", "(I)Z"⟩, prog_9_method_10_code, 2, some .boolean)
def zm_Stemma_findReverted : zD := (7, ⟨"StopPress$Stemma", "findReverted", "()V"⟩, prog_9_method_7_code, 3, none)
def zm_Stemma_goesBack : zD := (7, ⟨"StopPress$Stemma", "goesBack", "(II)Z"⟩, prog_9_method_8_code, 7, some .boolean)
def zm_Stemma_readingOfState : zD := (7, ⟨"StopPress$Stemma", "readingOfState", "(II)I"⟩, prog_9_method_16_code, 3, some .int)
def zm_Stemma_parentOf : zD := (7, ⟨"StopPress$Stemma", "parentOf", "(I)I"⟩, prog_9_method_17_code, 2, some .int)
def zm_P_describeCopy : zD := (9, ⟨"StopPress", "describeCopy", "(II)I"⟩, prog_1_method_30_code, 3, some .int)
def zm_Stemma_isExcluded : zD := (7, ⟨"StopPress$Stemma", "isExcluded", "(I)Z"⟩, prog_9_method_11_code, 2, some .boolean)
def zm_Stemma_stateOfCopy : zD := (7, ⟨"StopPress$Stemma", "stateOfCopy", "(I)I"⟩, prog_9_method_12_code, 2, some .int)
def zm_Alignment_tally : zD := (1, ⟨"StopPress$Alignment", "tally", "(I)I"⟩, prog_3_method_7_code, 2, some .int)
def zm_P_sign : zD := (9, ⟨"StopPress", "sign", "(II)I"⟩, prog_1_method_9_code, 3, some .int)
def zm_Text_has : zD := (8, ⟨"StopPress$Text", "has", "(I)Z"⟩, prog_10_method_3_code, 2, some .boolean)
def zm_P_collate : zD := (9, ⟨"StopPress", "collate", "(III)I"⟩, prog_1_method_10_code, 4, some .int)
def zm_P_step : zD := (9, ⟨"StopPress", "step", "(III)I"⟩, prog_1_method_11_code, 5, some .int)
def zm_P_reading : zD := (9, ⟨"StopPress", "reading", "(II)I"⟩, prog_1_method_12_code, 3, some .int)
def zm_P_states : zD := (9, ⟨"StopPress", "states", "(I)I"⟩, prog_1_method_13_code, 2, some .int)
def zm_Stemma_describeAll : zD := (7, ⟨"StopPress$Stemma", "describeAll", "(I)I"⟩, prog_9_method_21_code, 2, some .int)
def zm_Stemma_length : zD := (7, ⟨"StopPress$Stemma", "length", "()I"⟩, prog_9_method_22_code, 3, some .int)
def zm_Stemma_variedPlaces : zD := (7, ⟨"StopPress$Stemma", "variedPlaces", "()I"⟩, prog_9_method_23_code, 5, some .int)
def zm_Stemma_reversions : zD := (7, ⟨"StopPress$Stemma", "reversions", "()I"⟩, prog_9_method_24_code, 3, some .int)
def zm_Int_bitCount : zD := (12, ⟨"java/lang/Integer", "bitCount", "(I)I"⟩, prog_13_method_49_code, 1, some .int)
def zm_Stemma_leaves : zD := (7, ⟨"StopPress$Stemma", "leaves", "()I"⟩, prog_9_method_25_code, 3, some .int)
def zm_P_state : zD := (9, ⟨"StopPress", "state", "(II)I"⟩, prog_1_method_14_code, 3, some .int)
def zm_Stemma_describe : zD := (7, ⟨"StopPress$Stemma", "describe", "(II)I"⟩, prog_9_method_20_code, 3, some .int)
def zm_Stemma_ancestors : zD := (7, ⟨"StopPress$Stemma", "ancestors", "(I)I"⟩, prog_9_method_19_code, 5, some .int)
def zm_P_far : zD := (9, ⟨"StopPress", "far", "(II)I"⟩, prog_1_method_15_code, 3, some .int)
def zm_P_turned : zD := (9, ⟨"StopPress", "turned", "(II)I"⟩, prog_1_method_16_code, 3, some .int)
def zm_Stemma_isReverted : zD := (7, ⟨"StopPress$Stemma", "isReverted", "(II)Z"⟩, prog_9_method_18_code, 3, some .boolean)
def zm_P_see : zD := (9, ⟨"StopPress", "see", "(IIII)I"⟩, prog_1_method_17_code, 6, some .int)
def zm_Sight_clash : zD := (6, ⟨"StopPress$Sightings", "clash", "(III)Z"⟩, prog_8_method_6_code, 5, some .boolean)
def zm_Sight_size : zD := (6, ⟨"StopPress$Sightings", "size", "()I"⟩, prog_8_method_2_code, 1, some .int)
def zm_Sight_add : zD := (6, ⟨"StopPress$Sightings", "add", "(IIII)V"⟩, prog_8_method_7_code, 5, none)
def zm_P_unsee : zD := (9, ⟨"StopPress", "unsee", "(I)I"⟩, prog_1_method_18_code, 2, some .int)
def zm_Sight_has : zD := (6, ⟨"StopPress$Sightings", "has", "(I)Z"⟩, prog_8_method_4_code, 2, some .boolean)
def zm_Sight_remove : zD := (6, ⟨"StopPress$Sightings", "remove", "(I)V"⟩, prog_8_method_8_code, 4, none)
def zm_P_seen : zD := (9, ⟨"StopPress", "seen", "(II)I"⟩, prog_1_method_19_code, 3, some .int)
def zm_Sight_get : zD := (6, ⟨"StopPress$Sightings", "get", "(II)I"⟩, prog_8_method_5_code, 3, some .int)
def zm_P_forme : zD := (9, ⟨"StopPress", "forme", "(II)I"⟩, prog_1_method_20_code, 3, some .int)
def zm_P_describeForme : zD := (9, ⟨"StopPress", "describeForme", "(II)I"⟩, prog_1_method_31_code, 3, some .int)
def zm_Chrono_build : zD := (2, ⟨"StopPress$Chronology", "build", "(LStopPress$Sightings;)V"⟩, prog_4_method_2_code, 3, none)
def zm_Sight_changes : zD := (6, ⟨"StopPress$Sightings", "changes", "()I"⟩, prog_8_method_3_code, 1, some .int)
def zm_Chrono_enter : zD := (2, ⟨"StopPress$Chronology", "enter", "(LStopPress$Sightings;I)V"⟩, prog_4_method_3_code, 5, none)
def zm_Sight_isLessWorn : zD := (6, ⟨"StopPress$Sightings", "isLessWorn", "(II)Z"⟩, prog_8_method_9_code, 3, some .boolean)
def zm_Chrono_findCompanions : zD := (2, ⟨"StopPress$Chronology", "findCompanions", "(I)I"⟩, prog_4_method_4_code, 4, some .int)
def zm_Chrono_countOrders : zD := (2, ⟨"StopPress$Chronology", "countOrders", "()V"⟩, prog_4_method_5_code, 4, none)
def zm_Chrono_findFirst : zD := (2, ⟨"StopPress$Chronology", "findFirst", "()V"⟩, prog_4_method_6_code, 4, none)
def zm_Chrono_firstFree : zD := (2, ⟨"StopPress$Chronology", "firstFree", "(I)I"⟩, prog_4_method_7_code, 4, some .int)
def zm_Int_numberOfTrailingZeros : zD := (12, ⟨"java/lang/Integer", "numberOfTrailingZeros", "(I)I"⟩, prog_13_method_48_code, 2, some .int)
def zm_Chrono_typesOn : zD := (2, ⟨"StopPress$Chronology", "typesOn", "(I)I"⟩, prog_4_method_11_code, 2, some .int)
def zm_Chrono_aheadOf : zD := (2, ⟨"StopPress$Chronology", "aheadOf", "(I)I"⟩, prog_4_method_12_code, 2, some .int)
def zm_Chrono_companionsOf : zD := (2, ⟨"StopPress$Chronology", "companionsOf", "(I)I"⟩, prog_4_method_14_code, 2, some .int)
def zm_Chrono_placeOf : zD := (2, ⟨"StopPress$Chronology", "placeOf", "(I)I"⟩, prog_4_method_18_code, 4, some .int)
def zm_Chrono_orderLength : zD := (2, ⟨"StopPress$Chronology", "orderLength", "()I"⟩, prog_4_method_15_code, 1, some .int)
def zm_Presses_build : zD := (5, ⟨"StopPress$Presses", "build", "(LStopPress$Chronology;)V"⟩, prog_7_method_4_code, 4, none)
def zm_Chrono_builtFor : zD := (2, ⟨"StopPress$Chronology", "builtFor", "()I"⟩, prog_4_method_8_code, 1, some .int)
def zm_Presses_assign : zD := (5, ⟨"StopPress$Presses", "assign", "(LStopPress$Chronology;[III)Z"⟩, prog_7_method_5_code, 5, some .boolean)
def zm_Presses_fits : zD := (5, ⟨"StopPress$Presses", "fits", "(LStopPress$Chronology;[II)Z"⟩, prog_7_method_6_code, 5, some .boolean)
def zm_Presses_pressOf : zD := (5, ⟨"StopPress$Presses", "pressOf", "(I)I"⟩, prog_7_method_3_code, 2, some .int)
def zm_P_formes : zD := (9, ⟨"StopPress", "formes", "(I)I"⟩, prog_1_method_21_code, 2, some .int)
def zm_P_describeFormes : zD := (9, ⟨"StopPress", "describeFormes", "(I)I"⟩, prog_1_method_32_code, 2, some .int)
def zm_Chrono_seenSet : zD := (2, ⟨"StopPress$Chronology", "seenSet", "()I"⟩, prog_4_method_9_code, 1, some .int)
def zm_Chrono_orders : zD := (2, ⟨"StopPress$Chronology", "orders", "()I"⟩, prog_4_method_10_code, 1, some .int)
def zm_Fault_build : zD := (4, ⟨"StopPress$Fault", "build", "(LStopPress$Sightings;)V"⟩, prog_6_method_3_code, 2, none)
def zm_Fault_findPairs : zD := (4, ⟨"StopPress$Fault", "findPairs", "(LStopPress$Sightings;)V"⟩, prog_6_method_4_code, 4, none)
def zm_Fault_search : zD := (4, ⟨"StopPress$Fault", "search", "(I)V"⟩, prog_6_method_5_code, 4, none)
def zm_Fault_hasOrderWithout : zD := (4, ⟨"StopPress$Fault", "hasOrderWithout", "(I)Z"⟩, prog_6_method_6_code, 4, some .boolean)
def zm_Fault_hasNoCycle : zD := (4, ⟨"StopPress$Fault", "hasNoCycle", "()Z"⟩, prog_6_method_7_code, 5, some .boolean)
def zm_Fault_set : zD := (4, ⟨"StopPress$Fault", "set", "()I"⟩, prog_6_method_2_code, 1, some .int)
def zm_Presses_number : zD := (5, ⟨"StopPress$Presses", "number", "()I"⟩, prog_7_method_2_code, 1, some .int)
def zm_Chrono_typeSet : zD := (2, ⟨"StopPress$Chronology", "typeSet", "()I"⟩, prog_4_method_13_code, 3, some .int)
def zm_P_order : zD := (9, ⟨"StopPress", "order", "(I)I"⟩, prog_1_method_22_code, 2, some .int)
def zm_Chrono_hasPlace : zD := (2, ⟨"StopPress$Chronology", "hasPlace", "(I)Z"⟩, prog_4_method_16_code, 2, some .boolean)
def zm_Chrono_formeAt : zD := (2, ⟨"StopPress$Chronology", "formeAt", "(I)I"⟩, prog_4_method_17_code, 2, some .int)
def zm_P_count : zD := (9, ⟨"StopPress", "count", "(I)I"⟩, prog_1_method_23_code, 2, some .int)
def zm_P_digest : zD := (9, ⟨"StopPress", "digest", "()J"⟩, prog_1_method_24_code, 4, some .long)
def zm_P_hashCopies : zD := (9, ⟨"StopPress", "hashCopies", "(J)J"⟩, prog_1_method_25_code, 9, some .long)
def zm_P_hashPairs : zD := (9, ⟨"StopPress", "hashPairs", "(J)J"⟩, prog_1_method_26_code, 9, some .long)
def zm_P_hashStates : zD := (9, ⟨"StopPress", "hashStates", "(J)J"⟩, prog_1_method_27_code, 7, some .long)
def zm_Stemma_size : zD := (7, ⟨"StopPress$Stemma", "size", "()I"⟩, prog_9_method_9_code, 1, some .int)
def zm_P_hashSightings : zD := (9, ⟨"StopPress", "hashSightings", "(J)J"⟩, prog_1_method_28_code, 7, some .long)
def zm_P_hashFormes : zD := (9, ⟨"StopPress", "hashFormes", "(J)J"⟩, prog_1_method_29_code, 7, some .long)
def zm_M_init : zD := (10, ⟨"StopPressModel", "<init>", "()V"⟩, prog_12_method_1_code, 1, none)
def zm_M_letter : zD := (10, ⟨"StopPressModel", "letter", "(I)I"⟩, prog_12_method_4_code, 2, some .int)
def zm_M_within : zD := (10, ⟨"StopPressModel", "within", "(III)Z"⟩, prog_12_method_3_code, 3, some .boolean)
def zm_M_blank : zD := (10, ⟨"StopPressModel", "blank", "()I"⟩, prog_12_method_5_code, 2, some .int)
def zm_M_copy : zD := (10, ⟨"StopPressModel", "copy", "()I"⟩, prog_12_method_8_code, 1, some .int)
def zm_M_isCopyPage : zD := (10, ⟨"StopPressModel", "isCopyPage", "()Z"⟩, prog_12_method_6_code, 3, some .boolean)
def zm_M_readInto : zD := (10, ⟨"StopPressModel", "readInto", "(I)V"⟩, prog_12_method_7_code, 3, none)
def zm_M_correct : zD := (10, ⟨"StopPressModel", "correct", "(I)I"⟩, prog_12_method_10_code, 3, some .int)
def zm_M_isCopy : zD := (10, ⟨"StopPressModel", "isCopy", "(I)Z"⟩, prog_12_method_9_code, 2, some .boolean)
def zm_M_drop : zD := (10, ⟨"StopPressModel", "drop", "()I"⟩, prog_12_method_11_code, 1, some .int)
def zm_M_band : zD := (10, ⟨"StopPressModel", "band", "(I)I"⟩, prog_12_method_12_code, 3, some .int)
def zm_M_collate : zD := (10, ⟨"StopPressModel", "collate", "(III)I"⟩, prog_12_method_22_code, 4, some .int)
def zm_M_collateNow : zD := (10, ⟨"StopPressModel", "collateNow", "(III)I"⟩, prog_12_method_21_code, 4, some .int)
def zm_M_layCollation : zD := (10, ⟨"StopPressModel", "layCollation", "(II)V"⟩, prog_12_method_19_code, 6, none)
def zm_M_leastCost : zD := (10, ⟨"StopPressModel", "leastCost", "(II)I"⟩, prog_12_method_17_code, 4, some .int)
def zm_M_costBy : zD := (10, ⟨"StopPressModel", "costBy", "(III)I"⟩, prog_12_method_16_code, 5, some .int)
def zm_M_letterAt : zD := (10, ⟨"StopPressModel", "letterAt", "(II)I"⟩, prog_12_method_15_code, 3, some .int)
def zm_M_pairCost : zD := (10, ⟨"StopPressModel", "pairCost", "(II)I"⟩, prog_12_method_14_code, 2, some .int)
def zm_M_family : zD := (10, ⟨"StopPressModel", "family", "(I)I"⟩, prog_12_method_13_code, 1, some .int)
def zm_M_isCollated : zD := (10, ⟨"StopPressModel", "isCollated", "()Z"⟩, prog_12_method_18_code, 1, some .boolean)
def zm_M_stepsOf : zD := (10, ⟨"StopPressModel", "stepsOf", "(I)I"⟩, prog_12_method_20_code, 8, some .int)
def zm_M_step : zD := (10, ⟨"StopPressModel", "step", "(III)I"⟩, prog_12_method_24_code, 4, some .int)
def zm_M_stepNow : zD := (10, ⟨"StopPressModel", "stepNow", "(III)I"⟩, prog_12_method_23_code, 4, some .int)
def zm_M_of : zD := (10, ⟨"StopPressModel", "of", "(II)I"⟩, prog_12_method_38_code, 3, some .int)
def zm_M_copyNow : zD := (10, ⟨"StopPressModel", "copyNow", "(II)I"⟩, prog_12_method_37_code, 3, some .int)
def zm_M_layStates : zD := (10, ⟨"StopPressModel", "layStates", "()V"⟩, prog_12_method_29_code, 3, none)
def zm_M_layReading : zD := (10, ⟨"StopPressModel", "layReading", "(I)V"⟩, prog_12_method_25_code, 5, none)
def zm_M_unlike : zD := (10, ⟨"StopPressModel", "unlike", "(II)I"⟩, prog_12_method_27_code, 5, some .int)
def zm_M_places : zD := (10, ⟨"StopPressModel", "places", "()I"⟩, prog_12_method_26_code, 1, some .int)
def zm_M_layTree : zD := (10, ⟨"StopPressModel", "layTree", "()V"⟩, prog_12_method_30_code, 8, none)
def zm_M_farNow : zD := (10, ⟨"StopPressModel", "farNow", "(II)I"⟩, prog_12_method_28_code, 3, some .int)
def zm_M_costOf : zD := (10, ⟨"StopPressModel", "costOf", "(I)I"⟩, prog_12_method_35_code, 2, some .int)
def zm_M_moreOf : zD := (10, ⟨"StopPressModel", "moreOf", "(I)I"⟩, prog_12_method_34_code, 2, some .int)
def zm_M_otherReadings : zD := (10, ⟨"StopPressModel", "otherReadings", "(I)I"⟩, prog_12_method_36_code, 4, some .int)
def zm_M_sign : zD := (10, ⟨"StopPressModel", "sign", "(II)I"⟩, prog_12_method_39_code, 3, some .int)
def zm_M_reading : zD := (10, ⟨"StopPressModel", "reading", "(II)I"⟩, prog_12_method_40_code, 3, some .int)
def zm_M_states : zD := (10, ⟨"StopPressModel", "states", "(I)I"⟩, prog_12_method_47_code, 2, some .int)
def zm_M_statesNow : zD := (10, ⟨"StopPressModel", "statesNow", "(I)I"⟩, prog_12_method_46_code, 2, some .int)
def zm_M_outMany : zD := (10, ⟨"StopPressModel", "outMany", "()I"⟩, prog_12_method_41_code, 3, some .int)
def zm_M_changes : zD := (10, ⟨"StopPressModel", "changes", "()I"⟩, prog_12_method_42_code, 3, some .int)
def zm_M_unlikePlaces : zD := (10, ⟨"StopPressModel", "unlikePlaces", "()I"⟩, prog_12_method_43_code, 5, some .int)
def zm_M_readingOf : zD := (10, ⟨"StopPressModel", "readingOf", "(II)I"⟩, prog_12_method_31_code, 3, some .int)
def zm_M_turnedAll : zD := (10, ⟨"StopPressModel", "turnedAll", "()I"⟩, prog_12_method_44_code, 3, some .int)
def zm_M_turnedMany : zD := (10, ⟨"StopPressModel", "turnedMany", "(I)I"⟩, prog_12_method_33_code, 4, some .int)
def zm_M_isTurned : zD := (10, ⟨"StopPressModel", "isTurned", "(II)Z"⟩, prog_12_method_32_code, 4, some .boolean)
def zm_M_childless : zD := (10, ⟨"StopPressModel", "childless", "()I"⟩, prog_12_method_45_code, 5, some .int)
def zm_M_state : zD := (10, ⟨"StopPressModel", "state", "(II)I"⟩, prog_12_method_52_code, 3, some .int)
def zm_M_stateNow : zD := (10, ⟨"StopPressModel", "stateNow", "(II)I"⟩, prog_12_method_51_code, 3, some .int)
def zm_M_tellState : zD := (10, ⟨"StopPressModel", "tellState", "(II)I"⟩, prog_12_method_50_code, 3, some .int)
def zm_M_copiesIn : zD := (10, ⟨"StopPressModel", "copiesIn", "(I)I"⟩, prog_12_method_48_code, 4, some .int)
def zm_M_above : zD := (10, ⟨"StopPressModel", "above", "(I)I"⟩, prog_12_method_49_code, 4, some .int)
def zm_M_far : zD := (10, ⟨"StopPressModel", "far", "(II)I"⟩, prog_12_method_53_code, 3, some .int)
def zm_M_turned : zD := (10, ⟨"StopPressModel", "turned", "(II)I"⟩, prog_12_method_54_code, 4, some .int)
def zm_M_see : zD := (10, ⟨"StopPressModel", "see", "(IIII)I"⟩, prog_12_method_56_code, 5, some .int)
def zm_M_isTaken : zD := (10, ⟨"StopPressModel", "isTaken", "(III)Z"⟩, prog_12_method_55_code, 6, some .boolean)
def zm_M_unsee : zD := (10, ⟨"StopPressModel", "unsee", "(I)I"⟩, prog_12_method_58_code, 3, some .int)
def zm_M_isSighting : zD := (10, ⟨"StopPressModel", "isSighting", "(I)Z"⟩, prog_12_method_57_code, 2, some .boolean)
def zm_M_seen : zD := (10, ⟨"StopPressModel", "seen", "(II)I"⟩, prog_12_method_60_code, 3, some .int)
def zm_M_sightingNow : zD := (10, ⟨"StopPressModel", "sightingNow", "(II)I"⟩, prog_12_method_59_code, 3, some .int)
def zm_M_order : zD := (10, ⟨"StopPressModel", "order", "(I)I"⟩, prog_12_method_70_code, 3, some .int)
def zm_M_orderAt : zD := (10, ⟨"StopPressModel", "orderAt", "(I)I"⟩, prog_12_method_69_code, 5, some .int)
def zm_M_allSightings : zD := (10, ⟨"StopPressModel", "allSightings", "()I"⟩, prog_12_method_63_code, 1, some .int)
def zm_M_orders : zD := (10, ⟨"StopPressModel", "orders", "(I)I"⟩, prog_12_method_66_code, 2, some .int)
def zm_M_layAhead : zD := (10, ⟨"StopPressModel", "layAhead", "(I)V"⟩, prog_12_method_62_code, 5, none)
def zm_M_has : zD := (10, ⟨"StopPressModel", "has", "(II)Z"⟩, prog_12_method_61_code, 2, some .boolean)
def zm_M_layWays : zD := (10, ⟨"StopPressModel", "layWays", "()V"⟩, prog_12_method_65_code, 3, none)
def zm_M_canBeFirst : zD := (10, ⟨"StopPressModel", "canBeFirst", "(II)Z"⟩, prog_12_method_64_code, 5, some .boolean)
def zm_M_many : zD := (10, ⟨"StopPressModel", "many", "(I)I"⟩, prog_12_method_67_code, 3, some .int)
def zm_M_forme : zD := (10, ⟨"StopPressModel", "forme", "(II)I"⟩, prog_12_method_82_code, 3, some .int)
def zm_M_formeNow : zD := (10, ⟨"StopPressModel", "formeNow", "(II)I"⟩, prog_12_method_81_code, 3, some .int)
def zm_M_onForme : zD := (10, ⟨"StopPressModel", "onForme", "(I)I"⟩, prog_12_method_80_code, 4, some .int)
def zm_M_togetherWith : zD := (10, ⟨"StopPressModel", "togetherWith", "(I)I"⟩, prog_12_method_73_code, 5, some .int)
def zm_M_typesOn : zD := (10, ⟨"StopPressModel", "typesOn", "(I)I"⟩, prog_12_method_72_code, 4, some .int)
def zm_M_placeOf : zD := (10, ⟨"StopPressModel", "placeOf", "(I)I"⟩, prog_12_method_71_code, 3, some .int)
def zm_M_pressNow : zD := (10, ⟨"StopPressModel", "pressNow", "(I)I"⟩, prog_12_method_79_code, 2, some .int)
def zm_M_layPresses : zD := (10, ⟨"StopPressModel", "layPresses", "()V"⟩, prog_12_method_78_code, 2, none)
def zm_M_findsRoom : zD := (10, ⟨"StopPressModel", "findsRoom", "(I)Z"⟩, prog_12_method_75_code, 4, some .boolean)
def zm_M_goesOn : zD := (10, ⟨"StopPressModel", "goesOn", "(I)I"⟩, prog_12_method_76_code, 2, some .int)
def zm_M_goesBack : zD := (10, ⟨"StopPressModel", "goesBack", "(I)I"⟩, prog_12_method_77_code, 2, some .int)
def zm_M_mayBeOn : zD := (10, ⟨"StopPressModel", "mayBeOn", "(II)Z"⟩, prog_12_method_74_code, 5, some .boolean)
def zm_M_formes : zD := (10, ⟨"StopPressModel", "formes", "(I)I"⟩, prog_12_method_86_code, 2, some .int)
def zm_M_formesNow : zD := (10, ⟨"StopPressModel", "formesNow", "(I)I"⟩, prog_12_method_85_code, 3, some .int)
def zm_M_faultNow : zD := (10, ⟨"StopPressModel", "faultNow", "()I"⟩, prog_12_method_68_code, 4, some .int)
def zm_M_pressesNow : zD := (10, ⟨"StopPressModel", "pressesNow", "()I"⟩, prog_12_method_83_code, 1, some .int)
def zm_M_typesSeen : zD := (10, ⟨"StopPressModel", "typesSeen", "()I"⟩, prog_12_method_84_code, 3, some .int)
def zm_M_count : zD := (10, ⟨"StopPressModel", "count", "(I)I"⟩, prog_12_method_88_code, 2, some .int)
def zm_M_howMany : zD := (10, ⟨"StopPressModel", "howMany", "(I)I"⟩, prog_12_method_87_code, 2, some .int)
def zm_M_digest : zD := (10, ⟨"StopPressModel", "digest", "()J"⟩, prog_12_method_93_code, 2, some .long)
def zm_M_mixCopies : zD := (10, ⟨"StopPressModel", "mixCopies", "()V"⟩, prog_12_method_90_code, 4, none)
def zm_M_mix : zD := (10, ⟨"StopPressModel", "mix", "(J)V"⟩, prog_12_method_89_code, 3, none)
def zm_M_mixStates : zD := (10, ⟨"StopPressModel", "mixStates", "()V"⟩, prog_12_method_91_code, 3, none)
def zm_M_mixFormes : zD := (10, ⟨"StopPressModel", "mixFormes", "()V"⟩, prog_12_method_92_code, 2, none)
def zm_law : zD := (11, x, code, maxLocals, ret)
/-- calls, by the caller's class: (entry, kind, parameters, callee); kind 0 virtual, 1 static, 2 a constructor, 3 a constructor of a nest mate -/
def zCT0 : List (Nat × Nat × Nat × zD) := [(15, 0, 0, zm_Text_size), (21, 1, 1, zm_Math_abs), (27, 0, 1, zm_Alignment_begin), (33, 0, 3, zm_Aligner_fill), (37, 0, 3, zm_Aligner_trace), (42, 0, 1, zm_Text_at), (45, 1, 2, zm_Aligner_kindOfPair), (52, 1, 2, zm_Math_min), (55, 0, 1, zm_Alignment_add)]
def zCT1 : List (Nat × Nat × Nat × zD) := [(31, 0, 0, zm_Alignment_length), (35, 0, 1, zm_Alignment_hasStep)]
def zCT2 : List (Nat × Nat × Nat × zD) := [(37, 0, 0, zm_Sight_changes), (43, 0, 0, zm_Sight_size), (46, 0, 2, zm_Chrono_enter), (50, 0, 1, zm_Chrono_findCompanions), (54, 0, 0, zm_Chrono_countOrders), (57, 0, 0, zm_Chrono_findFirst), (60, 0, 2, zm_Sight_get), (64, 0, 2, zm_Sight_isLessWorn), (68, 0, 1, zm_Chrono_firstFree), (71, 1, 1, zm_Int_numberOfTrailingZeros), (76, 1, 1, zm_Int_bitCount), (79, 0, 0, zm_Chrono_orderLength), (82, 0, 1, zm_Chrono_hasPlace)]
def zCT3 : List (Nat × Nat × Nat × zD) := [(25, 3, 0, zm_Aligner_init), (40, 3, 0, zm_Text_init), (41, 3, 0, zm_Alignment_init), (42, 0, 1, zm_Coll_has), (46, 1, 2, zm_Math_max), (52, 0, 1, zm_Text_takeFrom), (56, 0, 0, zm_Alignment_forget), (59, 0, 0, zm_Text_clear), (62, 0, 0, zm_Alignment_isKnown), (66, 0, 1, zm_Coll_text), (70, 0, 4, zm_Aligner_align)]
def zCT4 : List (Nat × Nat × Nat × zD) := [(34, 0, 0, zm_Sight_changes), (40, 0, 1, zm_Fault_findPairs), (44, 0, 0, zm_Sight_size), (47, 0, 1, zm_Fault_search), (51, 0, 2, zm_Sight_isLessWorn), (55, 0, 2, zm_Sight_get), (59, 1, 1, zm_Int_bitCount), (65, 0, 1, zm_Fault_hasOrderWithout), (69, 0, 0, zm_Fault_hasNoCycle)]
def zCT5 : List (Nat × Nat × Nat × zD) := [(22, 0, 0, zm_Chrono_builtFor), (27, 1, 4, zm_Presses_assign), (31, 0, 1, zm_Chrono_typesOn), (35, 1, 3, zm_Presses_fits), (39, 0, 1, zm_Chrono_companionsOf)]
def zCT6 : List (Nat × Nat × Nat × zD) := [(23, 0, 1, zm_Sight_has)]
def zCT7 : List (Nat × Nat × Nat × zD) := [(51, 0, 0, zm_Coll_changes), (57, 0, 0, zm_Coll_size), (59, 0, 1, zm_Coll_text), (63, 0, 0, zm_Text_size), (66, 0, 2, zm_Coll_best), (70, 0, 0, zm_Alignment_isFound), (76, 0, 3, zm_Stemma_read), (80, 0, 1, zm_Stemma_group), (84, 0, 0, zm_Stemma_connect), (87, 0, 0, zm_Stemma_findReverted), (90, 0, 0, zm_Alignment_length), (93, 0, 1, zm_Alignment_stepAt), (97, 0, 1, zm_Text_at), (100, 0, 2, zm_Stemma_differences), (104, 0, 1, zm_Stemma_joinNearest), (107, 0, 2, zm_Stemma_distance), (110, 0, 2, zm_Stemma_goesBack), (114, 0, 2, zm_Stemma_readingOfState), (117, 0, 1, zm_Stemma_parentOf), (120, 0, 1, zm_Stemma_stateOfCopy), (122, 0, 2, zm_Stemma_readingAt), (125, 0, 1, zm_Stemma_has), (129, 0, 1, zm_Stemma_ancestors), (132, 1, 1, zm_Int_bitCount), (137, 0, 0, zm_Stemma_length), (138, 0, 0, zm_Stemma_variedPlaces), (141, 0, 0, zm_Stemma_reversions), (144, 0, 0, zm_Stemma_leaves)]
def zCT8 : List (Nat × Nat × Nat × zD) := [(19, 0, 0, zm_Text_size), (23, 0, 1, zm_Text_at), (27, 0, 1, zm_Text_append)]
def zCT9 : List (Nat × Nat × Nat × zD) := [(9, 3, 0, zm_Text_init), (18, 2, 0, zm_Coll_init), (25, 3, 0, zm_Stemma_init), (32, 3, 0, zm_Sight_init), (39, 3, 0, zm_Chrono_init), (46, 3, 0, zm_Fault_init), (53, 3, 0, zm_Presses_init), (65, 0, 0, zm_Text_size), (69, 0, 1, zm_Text_append), (73, 0, 0, zm_Text_clear), (76, 0, 0, zm_Text_isWord), (80, 0, 0, zm_Coll_size), (81, 0, 2, zm_Coll_put), (85, 0, 1, zm_Coll_has), (89, 0, 1, zm_Coll_text), (93, 0, 0, zm_Coll_removeLast), (96, 0, 0, zm_Coll_reach), (99, 0, 1, zm_Coll_setReach), (102, 0, 1, zm_Stemma_build), (106, 0, 2, zm_P_describeCopy), (110, 0, 1, zm_Text_has), (111, 0, 1, zm_Text_at), (115, 0, 2, zm_Coll_best), (119, 0, 1, zm_Alignment_tally), (124, 0, 1, zm_Alignment_hasStep), (127, 0, 1, zm_Alignment_stepAt), (130, 0, 1, zm_Stemma_isExcluded), (133, 0, 2, zm_Stemma_readingAt), (136, 0, 1, zm_Stemma_describeAll), (139, 0, 1, zm_Stemma_has), (140, 0, 2, zm_Stemma_describe), (143, 0, 2, zm_Stemma_distance), (146, 0, 2, zm_Stemma_isReverted), (150, 0, 3, zm_Sight_clash), (154, 0, 0, zm_Sight_size), (155, 0, 4, zm_Sight_add), (159, 0, 1, zm_Sight_has), (160, 0, 1, zm_Sight_remove), (163, 0, 2, zm_Sight_get), (166, 0, 2, zm_P_describeForme), (169, 0, 1, zm_P_describeFormes), (172, 0, 1, zm_Chrono_build), (175, 0, 1, zm_Chrono_hasPlace), (178, 0, 1, zm_Chrono_formeAt), (183, 0, 1, zm_P_hashCopies), (187, 0, 1, zm_P_hashPairs), (190, 0, 1, zm_P_hashStates), (193, 0, 1, zm_P_hashSightings), (196, 0, 1, zm_P_hashFormes), (201, 0, 1, zm_P_count), (204, 0, 0, zm_Stemma_size), (205, 0, 0, zm_Chrono_orderLength), (208, 0, 1, zm_Stemma_stateOfCopy), (211, 0, 2, zm_Stemma_differences), (214, 0, 1, zm_Chrono_typesOn), (217, 1, 1, zm_Int_bitCount), (222, 0, 1, zm_Chrono_aheadOf), (225, 0, 1, zm_Chrono_companionsOf), (228, 0, 1, zm_Chrono_placeOf), (231, 0, 1, zm_Presses_build), (234, 0, 1, zm_Presses_pressOf), (237, 0, 0, zm_Chrono_seenSet), (240, 0, 0, zm_Chrono_orders), (243, 0, 1, zm_Fault_build), (244, 0, 0, zm_Fault_set), (247, 0, 0, zm_Presses_number), (250, 0, 0, zm_Chrono_typeSet)]
def zCT10 : List (Nat × Nat × Nat × zD) := [(72, 1, 3, zm_M_within), (82, 0, 0, zm_M_isCopyPage), (89, 0, 1, zm_M_readInto), (93, 0, 1, zm_M_isCopy), (97, 1, 1, zm_M_family), (108, 0, 2, zm_M_letterAt), (112, 1, 2, zm_M_pairCost), (115, 0, 3, zm_M_costBy), (119, 0, 2, zm_M_leastCost), (125, 0, 0, zm_M_isCollated), (128, 0, 2, zm_M_layCollation), (132, 0, 1, zm_M_stepsOf), (135, 0, 3, zm_M_collateNow), (138, 0, 3, zm_M_stepNow), (141, 0, 0, zm_M_places), (145, 0, 2, zm_M_unlike), (151, 0, 1, zm_M_layReading), (154, 0, 0, zm_M_layTree), (157, 0, 2, zm_M_farNow), (160, 0, 2, zm_M_readingOf), (163, 0, 2, zm_M_isTurned), (167, 0, 0, zm_M_layStates), (170, 0, 1, zm_M_costOf), (173, 0, 1, zm_M_moreOf), (176, 0, 1, zm_M_otherReadings), (179, 0, 2, zm_M_copyNow), (182, 0, 1, zm_M_turnedMany), (185, 0, 0, zm_M_outMany), (188, 0, 0, zm_M_changes), (191, 0, 0, zm_M_unlikePlaces), (194, 0, 0, zm_M_turnedAll), (197, 0, 0, zm_M_childless), (200, 0, 1, zm_M_statesNow), (203, 0, 1, zm_M_copiesIn), (206, 0, 1, zm_M_above), (209, 0, 2, zm_M_tellState), (212, 0, 2, zm_M_stateNow), (218, 0, 3, zm_M_isTaken), (221, 0, 1, zm_M_isSighting), (227, 0, 2, zm_M_sightingNow), (233, 1, 2, zm_M_has), (236, 0, 2, zm_M_canBeFirst), (239, 0, 1, zm_M_layAhead), (242, 0, 0, zm_M_layWays), (245, 0, 0, zm_M_allSightings), (248, 1, 1, zm_M_many), (251, 0, 1, zm_M_orders), (254, 0, 1, zm_M_orderAt), (257, 0, 1, zm_M_typesOn), (260, 0, 1, zm_M_goesOn), (263, 0, 1, zm_M_goesBack), (266, 0, 2, zm_M_mayBeOn), (269, 0, 1, zm_M_togetherWith), (275, 0, 1, zm_M_findsRoom), (278, 0, 0, zm_M_layPresses), (281, 0, 1, zm_M_onForme), (284, 0, 1, zm_M_placeOf), (287, 0, 1, zm_M_pressNow), (290, 0, 2, zm_M_formeNow), (293, 0, 0, zm_M_faultNow), (296, 0, 0, zm_M_pressesNow), (299, 0, 0, zm_M_typesSeen), (302, 0, 1, zm_M_formesNow), (305, 0, 1, zm_M_howMany), (314, 0, 1, zm_M_mix), (320, 0, 0, zm_M_mixCopies), (323, 0, 0, zm_M_mixStates), (326, 0, 0, zm_M_mixFormes)]
def zCT11 : List (Nat × Nat × Nat × zD) := [(9, 2, 0, zm_P_init), (12, 2, 0, zm_M_init), (13, 0, 1, zm_P_letter), (17, 0, 1, zm_M_letter), (18, 0, 0, zm_P_blank), (22, 0, 0, zm_M_blank), (23, 0, 0, zm_P_copy), (26, 0, 0, zm_M_copy), (27, 0, 1, zm_P_correct), (30, 0, 1, zm_M_correct), (31, 0, 0, zm_P_drop), (34, 0, 0, zm_M_drop), (35, 0, 1, zm_P_band), (38, 0, 1, zm_M_band), (39, 0, 2, zm_P_of), (43, 0, 2, zm_M_of), (44, 0, 2, zm_P_sign), (47, 0, 2, zm_M_sign), (48, 0, 3, zm_P_collate), (52, 0, 3, zm_M_collate), (53, 0, 3, zm_P_step), (56, 0, 3, zm_M_step), (57, 0, 2, zm_P_reading), (60, 0, 2, zm_M_reading), (61, 0, 1, zm_P_states), (64, 0, 1, zm_M_states), (65, 0, 2, zm_P_state), (68, 0, 2, zm_M_state), (69, 0, 2, zm_P_far), (72, 0, 2, zm_M_far), (73, 0, 2, zm_P_turned), (76, 0, 2, zm_M_turned), (77, 0, 4, zm_P_see), (81, 0, 4, zm_M_see), (82, 0, 1, zm_P_unsee), (85, 0, 1, zm_M_unsee), (86, 0, 2, zm_P_seen), (89, 0, 2, zm_M_seen), (90, 0, 2, zm_P_forme), (93, 0, 2, zm_M_forme), (94, 0, 1, zm_P_formes), (97, 0, 1, zm_M_formes), (98, 0, 1, zm_P_order), (101, 0, 1, zm_M_order), (102, 0, 1, zm_P_count), (105, 0, 1, zm_M_count), (106, 0, 0, zm_P_digest), (110, 0, 0, zm_M_digest)]
def zCT12 : List (Nat × Nat × Nat × zD) := []
def zCT13 : List (Nat × Nat × Nat × zD) := []
def zCT (c : Nat) : List (Nat × Nat × Nat × zD) := match c with
  | 0 => zCT0
  | 1 => zCT1
  | 2 => zCT2
  | 3 => zCT3
  | 4 => zCT4
  | 5 => zCT5
  | 6 => zCT6
  | 7 => zCT7
  | 8 => zCT8
  | 9 => zCT9
  | 10 => zCT10
  | 11 => zCT11
  | 12 => zCT12
  | 13 => zCT13
  | _ => []
def zCall (c i : Nat) : Option (Nat × Nat × zD) := ((zCT c).find? (fun e => e.1 == i)).map (fun e => e.2)
/-- Object.<init>, by the caller's class -/
def zObj (c i : Nat) : Bool := match c with
  | 0 => i == 3
  | 1 => i == 3
  | 2 => i == 3
  | 3 => i == 3
  | 4 => i == 3
  | 5 => i == 3
  | 6 => i == 3
  | 7 => i == 3
  | 8 => i == 3
  | 9 => i == 1
  | 10 => i == 1
  | _ => false
/-- fields: (entry, class, slot, type 0 int 1 boolean 2 long 3 reference, final) -/
def zFT0 : List (Nat × Nat × Nat × Nat × Bool) := [(11, 0, 0, 3, true)]
def zFT1 : List (Nat × Nat × Nat × Nat × Bool) := [(9, 1, 0, 3, true), (15, 1, 1, 3, true), (18, 1, 2, 1, false), (22, 1, 3, 1, false)]
def zFT2 : List (Nat × Nat × Nat × Nat × Bool) := [(9, 2, 0, 3, true), (15, 2, 1, 3, true), (18, 2, 2, 3, true), (21, 2, 3, 3, true), (24, 2, 4, 3, true), (27, 2, 5, 0, false), (31, 2, 6, 0, false), (34, 2, 7, 0, false)]
def zFT3 : List (Nat × Nat × Nat × Nat × Bool) := [(11, 3, 0, 3, true), (19, 3, 1, 3, true), (26, 3, 2, 3, true), (30, 3, 3, 0, false), (34, 3, 4, 0, false), (37, 3, 5, 0, false)]
def zFT4 : List (Nat × Nat × Nat × Nat × Bool) := [(11, 4, 0, 3, true), (15, 4, 1, 3, true), (18, 4, 2, 3, true), (21, 4, 3, 3, true), (24, 4, 4, 0, false), (28, 4, 5, 0, false), (31, 4, 6, 0, false)]
def zFT5 : List (Nat × Nat × Nat × Nat × Bool) := [(9, 5, 0, 3, true), (15, 5, 1, 0, false), (19, 5, 2, 0, false)]
def zFT6 : List (Nat × Nat × Nat × Nat × Bool) := [(11, 6, 0, 3, true), (16, 6, 1, 0, false), (20, 6, 2, 0, false)]
def zFT7 : List (Nat × Nat × Nat × Nat × Bool) := [(11, 7, 0, 3, true), (16, 7, 1, 3, true), (20, 7, 2, 3, true), (23, 7, 3, 3, true), (26, 7, 4, 3, true), (29, 7, 5, 3, true), (32, 7, 6, 3, true), (35, 7, 7, 3, true), (38, 7, 8, 0, false), (42, 7, 9, 0, false), (45, 7, 10, 0, false), (48, 7, 11, 0, false)]
def zFT8 : List (Nat × Nat × Nat × Nat × Bool) := [(9, 8, 0, 3, true), (15, 8, 1, 0, false)]
def zFT9 : List (Nat × Nat × Nat × Nat × Bool) := [(10, 9, 0, 3, true), (19, 9, 1, 3, true), (26, 9, 2, 3, true), (33, 9, 3, 3, true), (40, 9, 4, 3, true), (47, 9, 5, 3, true), (54, 9, 6, 3, true), (58, 9, 7, 0, false), (62, 9, 8, 0, false)]
def zFT10 : List (Nat × Nat × Nat × Nat × Bool) := [(7, 10, 1, 3, true), (13, 10, 3, 3, true), (16, 10, 4, 3, true), (19, 10, 5, 0, false), (23, 10, 8, 3, true), (26, 10, 9, 3, true), (29, 10, 10, 3, true), (32, 10, 11, 3, true), (35, 10, 13, 3, true), (38, 10, 15, 3, true), (41, 10, 18, 3, true), (44, 10, 19, 3, true), (48, 10, 21, 3, true), (51, 10, 22, 3, true), (54, 10, 23, 3, true), (57, 10, 24, 3, true), (60, 10, 26, 3, true), (63, 10, 27, 3, true), (66, 10, 29, 3, true), (69, 10, 30, 3, true), (76, 10, 0, 0, false), (79, 10, 6, 0, false), (86, 10, 2, 0, false), (101, 10, 16, 0, false), (104, 10, 17, 0, false), (122, 10, 14, 0, false), (148, 10, 20, 0, false), (215, 10, 7, 0, false), (224, 10, 12, 0, false), (230, 10, 25, 0, false), (272, 10, 28, 0, false), (310, 10, 31, 2, false)]
def zFT11 : List (Nat × Nat × Nat × Nat × Bool) := []
def zFT12 : List (Nat × Nat × Nat × Nat × Bool) := []
def zFT13 : List (Nat × Nat × Nat × Nat × Bool) := []
def zFT (c : Nat) : List (Nat × Nat × Nat × Nat × Bool) := match c with
  | 0 => zFT0
  | 1 => zFT1
  | 2 => zFT2
  | 3 => zFT3
  | 4 => zFT4
  | 5 => zFT5
  | 6 => zFT6
  | 7 => zFT7
  | 8 => zFT8
  | 9 => zFT9
  | 10 => zFT10
  | 11 => zFT11
  | 12 => zFT12
  | 13 => zFT13
  | _ => []
def zFld (c i : Nat) : Option (Nat × Nat × Nat × Bool) := ((zFT c).find? (fun e => e.1 == i)).map (fun e => e.2)
def zStat (c i : Nat) : Option Nat := match c, i with
  | 0, 59 => some 0
  | 0, 49 => some 1
  | 1, 25 => some 2
  | 1, 28 => some 1
  | _, _ => none
def zCst (c i : Nat) : Option Int := match c, i with
  | 0, 41 => some 1000000
  | 12, 265 => some 1431655765
  | 12, 266 => some 858993459
  | 12, 267 => some 252645135
  | 12, 264 => some 65536
  | 10, 107 => some 1048576
  | _, _ => none
def zCstL (c i : Nat) : Option Int64 := match c, i with
  | 9, 181 => some 1607
  | 9, 199 => some 31
  | 10, 318 => some 1607
  | 10, 308 => some 31
  | _, _ => none
def zNF (c : Nat) : Nat := match c with
  | 0 => 1
  | 1 => 4
  | 2 => 8
  | 3 => 6
  | 4 => 7
  | 5 => 3
  | 6 => 3
  | 7 => 12
  | 8 => 2
  | 9 => 9
  | 10 => 32
  | _ => 0
def zNew (c i : Nat) : Option Nat := match c, i with
  | 11, 7 => some 9
  | 11, 10 => some 10
  | 9, 7 => some 8
  | 9, 16 => some 3
  | 9, 23 => some 7
  | 9, 30 => some 6
  | 9, 37 => some 2
  | 9, 44 => some 4
  | 9, 51 => some 5
  | 3, 9 => some 8
  | 3, 17 => some 1
  | 3, 23 => some 0
  | _, _ => none
/-- the type of a class's field -/
def zTy (c k : Nat) : Nat := match c with
  | 0 => ([3] : List Nat).getD k 0
  | 1 => ([3, 3, 1, 1] : List Nat).getD k 0
  | 2 => ([3, 3, 3, 3, 3, 0, 0, 0] : List Nat).getD k 0
  | 3 => ([3, 3, 3, 0, 0, 0] : List Nat).getD k 0
  | 4 => ([3, 3, 3, 3, 0, 0, 0] : List Nat).getD k 0
  | 5 => ([3, 0, 0] : List Nat).getD k 0
  | 6 => ([3, 0, 0] : List Nat).getD k 0
  | 7 => ([3, 3, 3, 3, 3, 3, 3, 3, 0, 0, 0, 0] : List Nat).getD k 0
  | 8 => ([3, 0] : List Nat).getD k 0
  | 9 => ([3, 3, 3, 3, 3, 3, 3, 0, 0] : List Nat).getD k 0
  | 10 => ([0, 3, 0, 3, 3, 0, 0, 0, 3, 3, 3, 3, 0, 3, 0, 3, 0, 0, 3, 3, 0, 3, 3, 3, 3, 0, 3, 3, 0, 3, 3, 2] : List Nat).getD k 0
  | _ => 0
end
section
/-! THE SMALL MACHINE: the claim's methods run over a heap of plain numbers. A value is an int, a long, a reference (a cell's number) or unset; the heap is the shapes of the cells (kind, size), the references they hold, the numbers they hold. Kinds 0 to 10: objects of the classes; 20 int[], 21 boolean[], 22 Text[], 23 Alignment[], 24 int[][]; others: no cell that is looked at. -/
abbrev zV : Type := Int ⊕ (Int64 ⊕ (Nat ⊕ Unit))
abbrev iV (a : Int) : zV := Sum.inl a
abbrev lV (x : Int64) : zV := Sum.inr (Sum.inl x)
abbrev rV (a : Nat) : zV := Sum.inr (Sum.inr (Sum.inl a))
abbrev uV : zV := Sum.inr (Sum.inr (Sum.inr ()))
abbrev zM : Type := Nat → Nat → Int
abbrev zS : Type := List (Nat × Nat) × zM × zM
def zU (M : zM) (a k : Nat) (v : Int) : zM := fun a' k' => if a' = a ∧ k' = k then v else M a' k'
def zZ (M : zM) (n a : Nat) (v : Int) : zM := fun a' k' => if a ≤ a' ∧ a' < a + n then v else M a' k'
def zR (a : Int) : Prop := -2147483648 ≤ a ∧ a ≤ 2147483647
/-- a long as two ints -/
def zHi (x : Int64) : Int := x.toInt / 4294967296
def zLo (x : Int64) : Int := x.toInt % 4294967296 - 2147483648
def zLg (hi lo : Int) : Int64 := Int64.ofInt (hi * 4294967296 + lo + 2147483648)
def zI2 (f : Int32 → Int32 → Int32) (a b : Int) : Int := (f (Int32.ofInt a) (Int32.ofInt b)).toInt
def zShl (x y : Int32) : Int32 := x <<< (y &&& 31)
def zShr (x y : Int32) : Int32 := x >>> (y &&& 31)
def zUsr (x y : Int32) : Int32 := (x.toUInt32 >>> (y.toUInt32 &&& Int32.toUInt32 31)).toInt32
def zRem (x y : Int32) : Int32 := x - x / y * y
def zC (c : Jvm.ClassFile.Cond) (a b : Int) : Bool := match c with
  | .eq => decide (a = b)
  | .ne => decide (¬ a = b)
  | .lt => decide (a < b)
  | .ge => decide (b ≤ a)
  | .gt => decide (b < a)
  | .le => decide (a ≤ b)
def zCat (v : zV) : Nat := match v with
  | .inr (.inl _) => 2
  | _ => 1
def zCs (l : List zV) : Nat := (l.map zCat).sum
/-- the locals at a method's entry -/
def zSl (as : List zV) : List zV := as.flatMap (fun v => if zCat v = 2 then [v, uV] else [v])
def zEnt (maxL : Nat) (as : List zV) : List zV := zSl as ++ List.replicate (maxL - (zSl as).length) uV
abbrev zT : Type := (Nat × List zV × List zV × zS) ⊕ ((zD × List zV × List zV) ⊕ Option zV)
def zNx (ok : Bool) (pc : Nat) (ls st : List zV) (q : zS) : Option zT := if ok = true then some (.inl (pc, ls, st, q)) else none
def zJp (ok : Bool) (pc : Nat) (off : Int) (ls st : List zV) (q : zS) : Option zT := zNx (ok && decide (0 ≤ (pc : Int) + off)) ((pc : Int) + off).toNat ls st q
def zBin (pc len : Nat) (f : Int32 → Int32 → Int32) (ok : Int → Bool) (ls st : List zV) (q : zS) : Option zT := match st with
  | .inl b :: .inl a :: r => zNx (len == 1 && ok b) (pc + 1) ls (iV (zI2 f a b) :: r) q
  | _ => none
def zLdI (pc len w k : Nat) (ls st : List zV) (q : zS) : Option zT := match ls[k]? with
  | some (.inl a) => zNx (len == w) (pc + w) ls (iV a :: st) q
  | _ => none
def zLdL (pc len w k : Nat) (ls st : List zV) (q : zS) : Option zT := match ls[k]? with
  | some (.inr (.inl x)) => zNx (len == w) (pc + w) ls (lV x :: st) q
  | _ => none
def zLdA (pc len w k : Nat) (ls st : List zV) (q : zS) : Option zT := match ls[k]? with
  | some (.inr (.inr (.inl a))) => zNx (len == w) (pc + w) ls (rV a :: st) q
  | _ => none
/-- no long stands just below a place -/
def zFree (ls : List zV) (k : Nat) : Bool := match k with
  | 0 => true
  | k + 1 => match ls[k]? with
    | some v => zCat v == 1
    | none => true
def zStI (pc len w k : Nat) (ls st : List zV) (q : zS) : Option zT := match st with
  | .inl a :: r => zNx (len == w && decide (k < ls.length) && zFree ls k) (pc + w) (ls.set k (iV a)) r q
  | _ => none
def zStL (pc len w k : Nat) (ls st : List zV) (q : zS) : Option zT := match st with
  | .inr (.inl x) :: r => zNx (len == w && decide (k + 1 < ls.length) && zFree ls k) (pc + w) ((ls.set k (lV x)).set (k + 1) uV) r q
  | _ => none
def zStA (pc len w k : Nat) (ls st : List zV) (q : zS) : Option zT := match st with
  | .inr (.inr (.inl a)) :: r => zNx (len == w && decide (k < ls.length) && zFree ls k) (pc + w) (ls.set k (rV a)) r q
  | _ => none
def zGetF (pc len : Nat) (f : Option (Nat × Nat × Nat × Bool)) (ls st : List zV) (q : zS) : Option zT := match st, f with
  | .inr (.inr (.inl a)) :: r, some (C, k, t, _) =>
    if q.1[a]?.map Prod.fst = some C then
      if t = 3 then zNx (len == 3 && decide (0 ≤ q.2.1 a k)) (pc + 3) ls (rV (q.2.1 a k).toNat :: r) q
      else if t = 2 then zNx (len == 3) (pc + 3) ls (lV (zLg (q.2.2 a k) (q.2.2 a (k + 1000))) :: r) q
      else zNx (len == 3) (pc + 3) ls (iV (q.2.2 a k) :: r) q
    else none
  | _, _ => none
def zPutF (m : zD) (pc len : Nat) (f : Option (Nat × Nat × Nat × Bool)) (ls st : List zV) (q : zS) : Option zT := match st, f with
  | .inl x :: .inr (.inr (.inl a)) :: r, some (C, k, t, fin) =>
    if q.1[a]?.map Prod.fst = some C ∧ 4 ≤ a ∧ (t = 0 ∨ t = 1 ∧ (x = 0 ∨ x = 1)) ∧ fin = false then zNx (len == 3) (pc + 3) ls r (q.1, q.2.1, zU q.2.2 a k x) else none
  | .inr (.inl x) :: .inr (.inr (.inl a)) :: r, some (C, k, t, fin) =>
    if q.1[a]?.map Prod.fst = some C ∧ 4 ≤ a ∧ t = 2 ∧ fin = false then zNx (len == 3) (pc + 3) ls r (q.1, q.2.1, zU (zU q.2.2 a k (zHi x)) a (k + 1000) (zLo x)) else none
  | .inr (.inr (.inl v)) :: .inr (.inr (.inl a)) :: r, some (C, k, t, fin) =>
    if q.1[a]?.map Prod.fst = some C ∧ 4 ≤ a ∧ t = 3 ∧ fin = true ∧ m.1 = C ∧ m.2.1.name = "<init>" then zNx (len == 3) (pc + 3) ls r (q.1, zU q.2.1 a k v, q.2.2) else none
  | _, _ => none
/-- an element of a row of numbers of kind kd -/
def zALd (pc len kd : Nat) (ls st : List zV) (q : zS) : Option zT := match st with
  | .inl i :: .inr (.inr (.inl a)) :: r => match q.1[a]? with
    | some (k, n) => if k = kd ∧ 0 ≤ i ∧ i < n then zNx (len == 1) (pc + 1) ls (iV (q.2.2 a i.toNat) :: r) q else none
    | none => none
  | _ => none
def zRLd (pc len : Nat) (ls st : List zV) (q : zS) : Option zT := match st with
  | .inl i :: .inr (.inr (.inl a)) :: r => match q.1[a]? with
    | some (k, n) => if (k = 22 ∨ k = 23 ∨ k = 24) ∧ 0 ≤ i ∧ i < n ∧ 0 ≤ q.2.1 a i.toNat then zNx (len == 1) (pc + 1) ls (rV (q.2.1 a i.toNat).toNat :: r) q else none
    | none => none
  | _ => none
def zASt (pc len kd : Nat) (ls st : List zV) (q : zS) : Option zT := match st with
  | .inl x :: .inl i :: .inr (.inr (.inl a)) :: r => match q.1[a]? with
    | some (k, n) => if k = kd ∧ 4 ≤ a ∧ 0 ≤ i ∧ i < n ∧ (kd = 20 ∨ x = 0 ∨ x = 1) then zNx (len == 1) (pc + 1) ls r (q.1, q.2.1, zU q.2.2 a i.toNat x) else none
    | none => none
  | _ => none
def zRSt (pc len : Nat) (ls st : List zV) (q : zS) : Option zT := match st with
  | .inr (.inr (.inl v)) :: .inl i :: .inr (.inr (.inl a)) :: r => match q.1[a]? with
    | some (k, n) => if ((k = 22 ∧ q.1[v]?.map Prod.fst = some 8) ∨ (k = 23 ∧ q.1[v]?.map Prod.fst = some 1)) ∧ 4 ≤ a ∧ 0 ≤ i ∧ i < n then zNx (len == 1) (pc + 1) ls r (q.1, zU q.2.1 a i.toNat v, q.2.2) else none
    | none => none
  | _ => none
def zALen (pc len : Nat) (ls st : List zV) (q : zS) : Option zT := match st with
  | .inr (.inr (.inl a)) :: r => match q.1[a]? with
    | some (k, n) => if (k = 20 ∨ k = 21 ∨ k = 22 ∨ k = 23 ∨ k = 24) ∧ n < 100000 then zNx (len == 1) (pc + 1) ls (iV n :: r) q else none
    | none => none
  | _ => none
/-- cells that are made: n of a kind and a size -/
def zPush (q : zS) (n kd sz : Nat) : zS := (q.1 ++ List.replicate n (kd, sz), zZ q.2.1 n q.1.length (-1), zZ q.2.2 n q.1.length 0)
def zNewO (pc len : Nat) (c : Option Nat) (ls st : List zV) (q : zS) : Option zT := match c with
  | some C => zNx (len == 3 && decide (C < 11)) (pc + 3) ls (rV q.1.length :: st) (zPush q 1 C (zNF C))
  | none => none
def zNewA (pc len w kd : Nat) (ls st : List zV) (q : zS) : Option zT := match st with
  | .inl n :: r => zNx (len == w && decide (0 ≤ n) && decide (n < 10000)) (pc + w) ls (rV q.1.length :: r) (zPush q 1 kd n.toNat)
  | _ => none
def zNewM (pc len : Nat) (ls st : List zV) (q : zS) : Option zT := match st with
  | .inl k :: .inl n :: r => zNx (len == 4 && decide (0 ≤ n) && decide (n < 10000) && decide (0 ≤ k) && decide (k < 10000)) (pc + 4) ls (rV q.1.length :: r)
      (let p := zPush (zPush q 1 24 n.toNat) n.toNat 20 k.toNat
       (p.1, (fun a j => if a = q.1.length ∧ j < n.toNat then ((q.1.length + 1 + j : Nat) : Int) else p.2.1 a j), p.2.2))
  | _ => none
def zCallV (pc len : Nat) (f : Option (Nat × Nat × zD)) (st : List zV) (q : zS) : Option zT := match f with
  | some (kd, np, m) => match st.drop np with
    | .inr (.inr (.inl a)) :: rest => if kd = 0 ∧ len = 3 ∧ zCs rest ≤ 8 ∧ q.1[a]?.map Prod.fst = some m.1 ∧ (zSl (rV a :: (st.take np).reverse)).length ≤ m.2.2.2.1 then some (.inr (.inl (m, rV a :: (st.take np).reverse, rest))) else none
    | _ => none
  | none => none
def zCallS (pc len : Nat) (f : Option (Nat × Nat × zD)) (st : List zV) (q : zS) : Option zT := match f with
  | some (kd, np, m) => if kd = 1 ∧ len = 3 ∧ zCs (st.drop np) ≤ 8 ∧ np ≤ st.length ∧ (zSl (st.take np).reverse).length ≤ m.2.2.2.1 then some (.inr (.inl (m, (st.take np).reverse, st.drop np))) else none
  | none => none
def zCallI (pc len : Nat) (o : Bool) (f : Option (Nat × Nat × zD)) (ls st : List zV) (q : zS) : Option zT := match st with
  | .inr (.inr (.inl a)) :: rest => if o = true then zNx (len == 3 && decide (zCs rest ≤ 8)) (pc + 3) ls rest q else match f with
    | some (kd, np, m) => if (kd = 2 ∨ kd = 3) ∧ np = 0 ∧ len = 3 ∧ zCs rest ≤ 8 ∧ 1 ≤ m.2.2.2.1 then some (.inr (.inl (m, [rV a], rest))) else none
    | none => none
  | _ => none
def zRet (m : zD) (len : Nat) (st : List zV) : Option zT := match st with
  | [.inl a] => if len = 1 ∧ (m.2.2.2.2 = some .int ∨ m.2.2.2.2 = some .boolean ∧ (a = 0 ∨ a = 1)) then some (.inr (.inr (some (iV a)))) else none
  | _ => none
def zEx (m : zD) (pc len : Nat) (i : Jvm.ClassFile.Instr) (ls st : List zV) (q : zS) : Option zT := match i with
  | .iconst n => zNx (len == 1 && decide (-128 ≤ n ∧ n < 128)) (pc + 1) ls (iV n :: st) q
  | .bipush n => zNx (len == 2 && decide (-128 ≤ n ∧ n < 128)) (pc + 2) ls (iV n :: st) q
  | .sipush n => zNx (len == 3 && decide (-32768 ≤ n ∧ n < 32768)) (pc + 3) ls (iV n :: st) q
  | .ldc k => match zCst m.1 k with
    | some v => zNx (len == 2) (pc + 2) ls (iV v :: st) q
    | none => none
  | .ldc_w k => match zCst m.1 k with
    | some v => zNx (len == 3) (pc + 3) ls (iV v :: st) q
    | none => none
  | .ldc2_w k => match zCstL m.1 k with
    | some v => zNx (len == 3) (pc + 3) ls (lV v :: st) q
    | none => none
  | .iload k => zLdI pc len 2 k ls st q
  | .iload_n k => zLdI pc len 1 k.val ls st q
  | .lload k => zLdL pc len 2 k ls st q
  | .lload_n k => zLdL pc len 1 k.val ls st q
  | .aload k => zLdA pc len 2 k ls st q
  | .aload_n k => zLdA pc len 1 k.val ls st q
  | .istore k => zStI pc len 2 k ls st q
  | .istore_n k => zStI pc len 1 k.val ls st q
  | .lstore k => zStL pc len 2 k ls st q
  | .lstore_n k => zStL pc len 1 k.val ls st q
  | .astore k => zStA pc len 2 k ls st q
  | .astore_n k => zStA pc len 1 k.val ls st q
  | .iinc k n => match ls[k]? with
    | some (.inl a) => zNx (len == 3 && zFree ls k) (pc + 3) (ls.set k (iV (zI2 (· + ·) a n))) st q
    | _ => none
  | .iadd => zBin pc len (· + ·) (fun _ => true) ls st q
  | .isub => zBin pc len (· - ·) (fun _ => true) ls st q
  | .imul => zBin pc len (· * ·) (fun _ => true) ls st q
  | .iand => zBin pc len (· &&& ·) (fun _ => true) ls st q
  | .ior => zBin pc len (· ||| ·) (fun _ => true) ls st q
  | .ixor => zBin pc len (· ^^^ ·) (fun _ => true) ls st q
  | .ishl => zBin pc len zShl (fun _ => true) ls st q
  | .ishr => zBin pc len zShr (fun _ => true) ls st q
  | .iushr => zBin pc len zUsr (fun _ => true) ls st q
  | .idiv => zBin pc len (· / ·) (fun b => decide (¬ b = 0)) ls st q
  | .irem => zBin pc len zRem (fun b => decide (¬ b = 0)) ls st q
  | .ineg => match st with
    | .inl a :: r => zNx (len == 1) (pc + 1) ls (iV (-(Int32.ofInt a)).toInt :: r) q
    | _ => none
  | .i2l => match st with
    | .inl a :: r => zNx (len == 1) (pc + 1) ls (lV (Int32.ofInt a).toInt64 :: r) q
    | _ => none
  | .ladd => match st with
    | .inr (.inl b) :: .inr (.inl a) :: r => zNx (len == 1) (pc + 1) ls (lV (a + b) :: r) q
    | _ => none
  | .lmul => match st with
    | .inr (.inl b) :: .inr (.inl a) :: r => zNx (len == 1) (pc + 1) ls (lV (a * b) :: r) q
    | _ => none
  | .lcmp => match st with
    | .inr (.inl b) :: .inr (.inl a) :: r => zNx (len == 1) (pc + 1) ls (iV (lg_cmp a b).toInt :: r) q
    | _ => none
  | .dup => match st with
    | v :: r => zNx (len == 1 && zCat v == 1) (pc + 1) ls (v :: v :: r) q
    | _ => none
  | .pop => match st with
    | v :: r => zNx (len == 1 && zCat v == 1) (pc + 1) ls r q
    | _ => none
  | .dup2 => match st with
    | v :: w :: r => zNx (len == 1 && zCat v == 1 && zCat w == 1) (pc + 1) ls (v :: w :: v :: w :: r) q
    | _ => none
  | .ifCond c off => match st with
    | .inl a :: r => if zC c a 0 = true then zJp (len == 3) pc off ls r q else zNx (len == 3) (pc + 3) ls r q
    | _ => none
  | .if_icmp c off => match st with
    | .inl b :: .inl a :: r => if zC c a b = true then zJp (len == 3) pc off ls r q else zNx (len == 3) (pc + 3) ls r q
    | _ => none
  | .goto off => zJp (len == 3) pc off ls st q
  | .tableswitch d lo hi offs => match st with
    | .inl a :: r => if a < lo ∨ hi < a then zJp true pc d ls r q else match offs[(a - lo).toNat]? with
      | some off => zJp true pc off ls r q
      | none => none
    | _ => none
  | .getfield k => zGetF pc len (zFld m.1 k) ls st q
  | .putfield k => zPutF m pc len (zFld m.1 k) ls st q
  | .getstatic k => match zStat m.1 k with
    | some a => zNx (len == 3) (pc + 3) ls (rV a :: st) q
    | none => none
  | .iaload => zALd pc len 20 ls st q
  | .baload => zALd pc len 21 ls st q
  | .aaload => zRLd pc len ls st q
  | .iastore => zASt pc len 20 ls st q
  | .bastore => zASt pc len 21 ls st q
  | .aastore => zRSt pc len ls st q
  | .arraylength => zALen pc len ls st q
  | .new k => zNewO pc len (zNew m.1 k) ls st q
  | .newarray t => if t = .int then zNewA pc len 2 20 ls st q else if t = .boolean then zNewA pc len 2 21 ls st q else none
  | .anewarray k => if zNew m.1 k = some 8 then zNewA pc len 3 22 ls st q else if zNew m.1 k = some 1 then zNewA pc len 3 23 ls st q else none
  | .multianewarray k d => if (m.1 = 6 ∨ m.1 = 7) ∧ k = 9 ∧ d = 2 then zNewM pc len ls st q else none
  | .invokevirtual k => zCallV pc len (zCall m.1 k) st q
  | .invokestatic k => zCallS pc len (zCall m.1 k) st q
  | .invokespecial k => zCallI pc len (zObj m.1 k) (zCall m.1 k) ls st q
  | .ireturn => zRet m len st
  | .lreturn => match st with
    | [.inr (.inl x)] => if len = 1 ∧ m.2.2.2.2 = some .long then some (.inr (.inr (some (lV x)))) else none
    | _ => none
  | .areturn => match st, m.2.2.2.2 with
    | [.inr (.inr (.inl a))], some (.object _) => if len = 1 then some (.inr (.inr (some (rV a)))) else none
    | _, _ => none
  | .return_ => match st with
    | [] => if len = 1 ∧ m.2.2.2.2 = none then some (.inr (.inr none)) else none
    | _ => none
  | _ => none
/-- n: steps, over all calls; d: how deep calls may go -/
def zRun : Nat → Nat → zD → Nat → List zV → List zV → zS → Option (Option zV × zS)
  | 0, _, _, _, _, _, _ => none
  | n + 1, d, m, pc, ls, st, q => match decode m.2.2.1 pc with
    | .ok (i, len) => match zEx m pc len i ls st q with
      | some (.inl (pc', ls', st', q')) => zRun n d m pc' ls' st' q'
      | some (.inr (.inl (m', as, rest))) => match d with
        | 0 => none
        | d' + 1 => match zRun n d' m' 0 (zEnt m'.2.2.2.1 as) [] q with
          | some (r, q') => zRun n (d' + 1) m (pc + 3) ls (r.toList ++ rest) q'
          | none => none
      | some (.inr (.inr r)) => some (r, q)
      | none => none
    | _ => none
end
