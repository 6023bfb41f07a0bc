section
-- ===== PART A: goes FIRST, ahead of the names: the tables' words, and 'selects' of the private methods out of them =====
/-- a private method of a class that the tables say can be made, by its rows of tables_1 -/
def lw_okq (q : MethodName × Nat) : Prop := (q.1.cls ≠ "java/lang/invoke/MethodHandle" ∧ q.1.cls ≠ "java/lang/invoke/VarHandle") ∧ Cond.instantiable q.1.cls q.2 ∈ tables_1 ∧ Cond.privateMethod q.1 ∈ tables_1 ∧ Cond.instanceMethod q.1 ∈ tables_1
theorem lw_p0 : lw_okq (⟨"StopPress$Aligner", "fill", "(LStopPress$Text;LStopPress$Text;I)V"⟩, 1) := ⟨⟨by decide +kernel, by decide +kernel⟩, List.mem_of_getElem? (i := 47) (by decide +kernel), List.mem_of_getElem? (i := 383) (by decide +kernel), List.mem_of_getElem? (i := 384) (by decide +kernel)⟩
theorem lw_p1 : lw_okq (⟨"StopPress$Aligner", "trace", "(LStopPress$Text;LStopPress$Text;LStopPress$Alignment;)V"⟩, 1) := ⟨⟨by decide +kernel, by decide +kernel⟩, List.mem_of_getElem? (i := 47) (by decide +kernel), List.mem_of_getElem? (i := 399) (by decide +kernel), List.mem_of_getElem? (i := 400) (by decide +kernel)⟩
theorem lw_p2 : lw_okq (⟨"StopPress$Stemma", "read", "(ILStopPress$Text;LStopPress$Alignment;)V"⟩, 12) := ⟨⟨by decide +kernel, by decide +kernel⟩, List.mem_of_getElem? (i := 95) (by decide +kernel), List.mem_of_getElem? (i := 414) (by decide +kernel), List.mem_of_getElem? (i := 415) (by decide +kernel)⟩
theorem lw_p3 : lw_okq (⟨"StopPress$Stemma", "group", "(I)V"⟩, 12) := ⟨⟨by decide +kernel, by decide +kernel⟩, List.mem_of_getElem? (i := 95) (by decide +kernel), List.mem_of_getElem? (i := 432) (by decide +kernel), List.mem_of_getElem? (i := 433) (by decide +kernel)⟩
theorem lw_p4 : lw_okq (⟨"StopPress$Stemma", "connect", "()V"⟩, 12) := ⟨⟨by decide +kernel, by decide +kernel⟩, List.mem_of_getElem? (i := 95) (by decide +kernel), List.mem_of_getElem? (i := 444) (by decide +kernel), List.mem_of_getElem? (i := 445) (by decide +kernel)⟩
theorem lw_p5 : lw_okq (⟨"StopPress$Stemma", "joinNearest", "(I)V"⟩, 12) := ⟨⟨by decide +kernel, by decide +kernel⟩, List.mem_of_getElem? (i := 95) (by decide +kernel), List.mem_of_getElem? (i := 448) (by decide +kernel), List.mem_of_getElem? (i := 449) (by decide +kernel)⟩
theorem lw_p6 : lw_okq (⟨"StopPress$Stemma", "findReverted", "()V"⟩, 12) := ⟨⟨by decide +kernel, by decide +kernel⟩, List.mem_of_getElem? (i := 95) (by decide +kernel), List.mem_of_getElem? (i := 460) (by decide +kernel), List.mem_of_getElem? (i := 461) (by decide +kernel)⟩
theorem lw_p7 : lw_okq (⟨"StopPress$Stemma", "goesBack", "(II)Z"⟩, 12) := ⟨⟨by decide +kernel, by decide +kernel⟩, List.mem_of_getElem? (i := 95) (by decide +kernel), List.mem_of_getElem? (i := 464) (by decide +kernel), List.mem_of_getElem? (i := 465) (by decide +kernel)⟩
theorem lw_p8 : lw_okq (⟨"StopPress$Stemma", "readingOfState", "(II)I"⟩, 12) := ⟨⟨by decide +kernel, by decide +kernel⟩, List.mem_of_getElem? (i := 95) (by decide +kernel), List.mem_of_getElem? (i := 468) (by decide +kernel), List.mem_of_getElem? (i := 469) (by decide +kernel)⟩
theorem lw_p9 : lw_okq (⟨"StopPress$Stemma", "parentOf", "(I)I"⟩, 12) := ⟨⟨by decide +kernel, by decide +kernel⟩, List.mem_of_getElem? (i := 95) (by decide +kernel), List.mem_of_getElem? (i := 472) (by decide +kernel), List.mem_of_getElem? (i := 473) (by decide +kernel)⟩
theorem lw_p10 : lw_okq (⟨"StopPress", "describeCopy", "(II)I"⟩, 9) := ⟨⟨by decide +kernel, by decide +kernel⟩, List.mem_of_getElem? (i := 15) (by decide +kernel), List.mem_of_getElem? (i := 476) (by decide +kernel), List.mem_of_getElem? (i := 477) (by decide +kernel)⟩
theorem lw_p11 : lw_okq (⟨"StopPress$Stemma", "length", "()I"⟩, 12) := ⟨⟨by decide +kernel, by decide +kernel⟩, List.mem_of_getElem? (i := 95) (by decide +kernel), List.mem_of_getElem? (i := 527) (by decide +kernel), List.mem_of_getElem? (i := 528) (by decide +kernel)⟩
theorem lw_p12 : lw_okq (⟨"StopPress$Stemma", "variedPlaces", "()I"⟩, 12) := ⟨⟨by decide +kernel, by decide +kernel⟩, List.mem_of_getElem? (i := 95) (by decide +kernel), List.mem_of_getElem? (i := 531) (by decide +kernel), List.mem_of_getElem? (i := 532) (by decide +kernel)⟩
theorem lw_p13 : lw_okq (⟨"StopPress$Stemma", "reversions", "()I"⟩, 12) := ⟨⟨by decide +kernel, by decide +kernel⟩, List.mem_of_getElem? (i := 95) (by decide +kernel), List.mem_of_getElem? (i := 535) (by decide +kernel), List.mem_of_getElem? (i := 536) (by decide +kernel)⟩
theorem lw_p14 : lw_okq (⟨"StopPress$Stemma", "leaves", "()I"⟩, 12) := ⟨⟨by decide +kernel, by decide +kernel⟩, List.mem_of_getElem? (i := 95) (by decide +kernel), List.mem_of_getElem? (i := 545) (by decide +kernel), List.mem_of_getElem? (i := 546) (by decide +kernel)⟩
theorem lw_p15 : lw_okq (⟨"StopPress$Stemma", "ancestors", "(I)I"⟩, 12) := ⟨⟨by decide +kernel, by decide +kernel⟩, List.mem_of_getElem? (i := 95) (by decide +kernel), List.mem_of_getElem? (i := 558) (by decide +kernel), List.mem_of_getElem? (i := 559) (by decide +kernel)⟩
def lw_privs_1 : List (MethodName × Nat) := [(⟨"StopPress$Aligner", "fill", "(LStopPress$Text;LStopPress$Text;I)V"⟩, 1), (⟨"StopPress$Aligner", "trace", "(LStopPress$Text;LStopPress$Text;LStopPress$Alignment;)V"⟩, 1), (⟨"StopPress$Stemma", "read", "(ILStopPress$Text;LStopPress$Alignment;)V"⟩, 12), (⟨"StopPress$Stemma", "group", "(I)V"⟩, 12), (⟨"StopPress$Stemma", "connect", "()V"⟩, 12), (⟨"StopPress$Stemma", "joinNearest", "(I)V"⟩, 12), (⟨"StopPress$Stemma", "findReverted", "()V"⟩, 12), (⟨"StopPress$Stemma", "goesBack", "(II)Z"⟩, 12), (⟨"StopPress$Stemma", "readingOfState", "(II)I"⟩, 12), (⟨"StopPress$Stemma", "parentOf", "(I)I"⟩, 12), (⟨"StopPress", "describeCopy", "(II)I"⟩, 9), (⟨"StopPress$Stemma", "length", "()I"⟩, 12), (⟨"StopPress$Stemma", "variedPlaces", "()I"⟩, 12), (⟨"StopPress$Stemma", "reversions", "()I"⟩, 12), (⟨"StopPress$Stemma", "leaves", "()I"⟩, 12), (⟨"StopPress$Stemma", "ancestors", "(I)I"⟩, 12)]
theorem lw_r1 : ∀ q ∈ lw_privs_1, lw_okq q := List.forall_mem_cons.mpr ⟨lw_p0, List.forall_mem_cons.mpr ⟨lw_p1, List.forall_mem_cons.mpr ⟨lw_p2, List.forall_mem_cons.mpr ⟨lw_p3, List.forall_mem_cons.mpr ⟨lw_p4, List.forall_mem_cons.mpr ⟨lw_p5, List.forall_mem_cons.mpr ⟨lw_p6, List.forall_mem_cons.mpr ⟨lw_p7, List.forall_mem_cons.mpr ⟨lw_p8, List.forall_mem_cons.mpr ⟨lw_p9, List.forall_mem_cons.mpr ⟨lw_p10, List.forall_mem_cons.mpr ⟨lw_p11, List.forall_mem_cons.mpr ⟨lw_p12, List.forall_mem_cons.mpr ⟨lw_p13, List.forall_mem_cons.mpr ⟨lw_p14, List.forall_mem_cons.mpr ⟨lw_p15, fun _ h => absurd h List.not_mem_nil⟩⟩⟩⟩⟩⟩⟩⟩⟩⟩⟩⟩⟩⟩⟩⟩
theorem lw_p16 : lw_okq (⟨"StopPress", "describeForme", "(II)I"⟩, 9) := ⟨⟨by decide +kernel, by decide +kernel⟩, List.mem_of_getElem? (i := 15) (by decide +kernel), List.mem_of_getElem? (i := 616) (by decide +kernel), List.mem_of_getElem? (i := 617) (by decide +kernel)⟩
theorem lw_p17 : lw_okq (⟨"StopPress$Chronology", "enter", "(LStopPress$Sightings;I)V"⟩, 8) := ⟨⟨by decide +kernel, by decide +kernel⟩, List.mem_of_getElem? (i := 157) (by decide +kernel), List.mem_of_getElem? (i := 629) (by decide +kernel), List.mem_of_getElem? (i := 630) (by decide +kernel)⟩
theorem lw_p18 : lw_okq (⟨"StopPress$Chronology", "findCompanions", "(I)I"⟩, 8) := ⟨⟨by decide +kernel, by decide +kernel⟩, List.mem_of_getElem? (i := 157) (by decide +kernel), List.mem_of_getElem? (i := 638) (by decide +kernel), List.mem_of_getElem? (i := 639) (by decide +kernel)⟩
theorem lw_p19 : lw_okq (⟨"StopPress$Chronology", "countOrders", "()V"⟩, 8) := ⟨⟨by decide +kernel, by decide +kernel⟩, List.mem_of_getElem? (i := 157) (by decide +kernel), List.mem_of_getElem? (i := 642) (by decide +kernel), List.mem_of_getElem? (i := 643) (by decide +kernel)⟩
theorem lw_p20 : lw_okq (⟨"StopPress$Chronology", "findFirst", "()V"⟩, 8) := ⟨⟨by decide +kernel, by decide +kernel⟩, List.mem_of_getElem? (i := 157) (by decide +kernel), List.mem_of_getElem? (i := 646) (by decide +kernel), List.mem_of_getElem? (i := 647) (by decide +kernel)⟩
theorem lw_p21 : lw_okq (⟨"StopPress$Chronology", "firstFree", "(I)I"⟩, 8) := ⟨⟨by decide +kernel, by decide +kernel⟩, List.mem_of_getElem? (i := 157) (by decide +kernel), List.mem_of_getElem? (i := 650) (by decide +kernel), List.mem_of_getElem? (i := 651) (by decide +kernel)⟩
theorem lw_p22 : lw_okq (⟨"StopPress", "describeFormes", "(I)I"⟩, 9) := ⟨⟨by decide +kernel, by decide +kernel⟩, List.mem_of_getElem? (i := 15) (by decide +kernel), List.mem_of_getElem? (i := 704) (by decide +kernel), List.mem_of_getElem? (i := 705) (by decide +kernel)⟩
theorem lw_p23 : lw_okq (⟨"StopPress$Fault", "findPairs", "(LStopPress$Sightings;)V"⟩, 7) := ⟨⟨by decide +kernel, by decide +kernel⟩, List.mem_of_getElem? (i := 188) (by decide +kernel), List.mem_of_getElem? (i := 721) (by decide +kernel), List.mem_of_getElem? (i := 722) (by decide +kernel)⟩
theorem lw_p24 : lw_okq (⟨"StopPress$Fault", "search", "(I)V"⟩, 7) := ⟨⟨by decide +kernel, by decide +kernel⟩, List.mem_of_getElem? (i := 188) (by decide +kernel), List.mem_of_getElem? (i := 728) (by decide +kernel), List.mem_of_getElem? (i := 729) (by decide +kernel)⟩
theorem lw_p25 : lw_okq (⟨"StopPress$Fault", "hasOrderWithout", "(I)Z"⟩, 7) := ⟨⟨by decide +kernel, by decide +kernel⟩, List.mem_of_getElem? (i := 188) (by decide +kernel), List.mem_of_getElem? (i := 733) (by decide +kernel), List.mem_of_getElem? (i := 734) (by decide +kernel)⟩
theorem lw_p26 : lw_okq (⟨"StopPress$Fault", "hasNoCycle", "()Z"⟩, 7) := ⟨⟨by decide +kernel, by decide +kernel⟩, List.mem_of_getElem? (i := 188) (by decide +kernel), List.mem_of_getElem? (i := 737) (by decide +kernel), List.mem_of_getElem? (i := 738) (by decide +kernel)⟩
theorem lw_p27 : lw_okq (⟨"StopPress", "hashCopies", "(J)J"⟩, 9) := ⟨⟨by decide +kernel, by decide +kernel⟩, List.mem_of_getElem? (i := 15) (by decide +kernel), List.mem_of_getElem? (i := 775) (by decide +kernel), List.mem_of_getElem? (i := 776) (by decide +kernel)⟩
theorem lw_p28 : lw_okq (⟨"StopPress", "hashPairs", "(J)J"⟩, 9) := ⟨⟨by decide +kernel, by decide +kernel⟩, List.mem_of_getElem? (i := 15) (by decide +kernel), List.mem_of_getElem? (i := 780) (by decide +kernel), List.mem_of_getElem? (i := 781) (by decide +kernel)⟩
theorem lw_p29 : lw_okq (⟨"StopPress", "hashStates", "(J)J"⟩, 9) := ⟨⟨by decide +kernel, by decide +kernel⟩, List.mem_of_getElem? (i := 15) (by decide +kernel), List.mem_of_getElem? (i := 784) (by decide +kernel), List.mem_of_getElem? (i := 785) (by decide +kernel)⟩
theorem lw_p30 : lw_okq (⟨"StopPress", "hashSightings", "(J)J"⟩, 9) := ⟨⟨by decide +kernel, by decide +kernel⟩, List.mem_of_getElem? (i := 15) (by decide +kernel), List.mem_of_getElem? (i := 792) (by decide +kernel), List.mem_of_getElem? (i := 793) (by decide +kernel)⟩
theorem lw_p31 : lw_okq (⟨"StopPress", "hashFormes", "(J)J"⟩, 9) := ⟨⟨by decide +kernel, by decide +kernel⟩, List.mem_of_getElem? (i := 15) (by decide +kernel), List.mem_of_getElem? (i := 796) (by decide +kernel), List.mem_of_getElem? (i := 797) (by decide +kernel)⟩
def lw_privs_2 : List (MethodName × Nat) := [(⟨"StopPress", "describeForme", "(II)I"⟩, 9), (⟨"StopPress$Chronology", "enter", "(LStopPress$Sightings;I)V"⟩, 8), (⟨"StopPress$Chronology", "findCompanions", "(I)I"⟩, 8), (⟨"StopPress$Chronology", "countOrders", "()V"⟩, 8), (⟨"StopPress$Chronology", "findFirst", "()V"⟩, 8), (⟨"StopPress$Chronology", "firstFree", "(I)I"⟩, 8), (⟨"StopPress", "describeFormes", "(I)I"⟩, 9), (⟨"StopPress$Fault", "findPairs", "(LStopPress$Sightings;)V"⟩, 7), (⟨"StopPress$Fault", "search", "(I)V"⟩, 7), (⟨"StopPress$Fault", "hasOrderWithout", "(I)Z"⟩, 7), (⟨"StopPress$Fault", "hasNoCycle", "()Z"⟩, 7), (⟨"StopPress", "hashCopies", "(J)J"⟩, 9), (⟨"StopPress", "hashPairs", "(J)J"⟩, 9), (⟨"StopPress", "hashStates", "(J)J"⟩, 9), (⟨"StopPress", "hashSightings", "(J)J"⟩, 9), (⟨"StopPress", "hashFormes", "(J)J"⟩, 9)]
theorem lw_r2 : ∀ q ∈ lw_privs_2, lw_okq q := List.forall_mem_cons.mpr ⟨lw_p16, List.forall_mem_cons.mpr ⟨lw_p17, List.forall_mem_cons.mpr ⟨lw_p18, List.forall_mem_cons.mpr ⟨lw_p19, List.forall_mem_cons.mpr ⟨lw_p20, List.forall_mem_cons.mpr ⟨lw_p21, List.forall_mem_cons.mpr ⟨lw_p22, List.forall_mem_cons.mpr ⟨lw_p23, List.forall_mem_cons.mpr ⟨lw_p24, List.forall_mem_cons.mpr ⟨lw_p25, List.forall_mem_cons.mpr ⟨lw_p26, List.forall_mem_cons.mpr ⟨lw_p27, List.forall_mem_cons.mpr ⟨lw_p28, List.forall_mem_cons.mpr ⟨lw_p29, List.forall_mem_cons.mpr ⟨lw_p30, List.forall_mem_cons.mpr ⟨lw_p31, fun _ h => absurd h List.not_mem_nil⟩⟩⟩⟩⟩⟩⟩⟩⟩⟩⟩⟩⟩⟩⟩⟩
theorem lw_p32 : lw_okq (⟨"StopPressModel", "isCopyPage", "()Z"⟩, 32) := ⟨⟨by decide +kernel, by decide +kernel⟩, List.mem_of_getElem? (i := 802) (by decide +kernel), List.mem_of_getElem? (i := 921) (by decide +kernel), List.mem_of_getElem? (i := 922) (by decide +kernel)⟩
theorem lw_p33 : lw_okq (⟨"StopPressModel", "readInto", "(I)V"⟩, 32) := ⟨⟨by decide +kernel, by decide +kernel⟩, List.mem_of_getElem? (i := 802) (by decide +kernel), List.mem_of_getElem? (i := 925) (by decide +kernel), List.mem_of_getElem? (i := 926) (by decide +kernel)⟩
theorem lw_p34 : lw_okq (⟨"StopPressModel", "isCopy", "(I)Z"⟩, 32) := ⟨⟨by decide +kernel, by decide +kernel⟩, List.mem_of_getElem? (i := 802) (by decide +kernel), List.mem_of_getElem? (i := 933) (by decide +kernel), List.mem_of_getElem? (i := 934) (by decide +kernel)⟩
theorem lw_p35 : lw_okq (⟨"StopPressModel", "collateNow", "(III)I"⟩, 32) := ⟨⟨by decide +kernel, by decide +kernel⟩, List.mem_of_getElem? (i := 802) (by decide +kernel), List.mem_of_getElem? (i := 949) (by decide +kernel), List.mem_of_getElem? (i := 950) (by decide +kernel)⟩
theorem lw_p36 : lw_okq (⟨"StopPressModel", "layCollation", "(II)V"⟩, 32) := ⟨⟨by decide +kernel, by decide +kernel⟩, List.mem_of_getElem? (i := 802) (by decide +kernel), List.mem_of_getElem? (i := 953) (by decide +kernel), List.mem_of_getElem? (i := 954) (by decide +kernel)⟩
theorem lw_p37 : lw_okq (⟨"StopPressModel", "leastCost", "(II)I"⟩, 32) := ⟨⟨by decide +kernel, by decide +kernel⟩, List.mem_of_getElem? (i := 802) (by decide +kernel), List.mem_of_getElem? (i := 957) (by decide +kernel), List.mem_of_getElem? (i := 958) (by decide +kernel)⟩
theorem lw_p38 : lw_okq (⟨"StopPressModel", "costBy", "(III)I"⟩, 32) := ⟨⟨by decide +kernel, by decide +kernel⟩, List.mem_of_getElem? (i := 802) (by decide +kernel), List.mem_of_getElem? (i := 962) (by decide +kernel), List.mem_of_getElem? (i := 963) (by decide +kernel)⟩
theorem lw_p39 : lw_okq (⟨"StopPressModel", "letterAt", "(II)I"⟩, 32) := ⟨⟨by decide +kernel, by decide +kernel⟩, List.mem_of_getElem? (i := 802) (by decide +kernel), List.mem_of_getElem? (i := 966) (by decide +kernel), List.mem_of_getElem? (i := 967) (by decide +kernel)⟩
theorem lw_p40 : lw_okq (⟨"StopPressModel", "isCollated", "()Z"⟩, 32) := ⟨⟨by decide +kernel, by decide +kernel⟩, List.mem_of_getElem? (i := 802) (by decide +kernel), List.mem_of_getElem? (i := 976) (by decide +kernel), List.mem_of_getElem? (i := 977) (by decide +kernel)⟩
theorem lw_p41 : lw_okq (⟨"StopPressModel", "stepsOf", "(I)I"⟩, 32) := ⟨⟨by decide +kernel, by decide +kernel⟩, List.mem_of_getElem? (i := 802) (by decide +kernel), List.mem_of_getElem? (i := 980) (by decide +kernel), List.mem_of_getElem? (i := 981) (by decide +kernel)⟩
theorem lw_p42 : lw_okq (⟨"StopPressModel", "stepNow", "(III)I"⟩, 32) := ⟨⟨by decide +kernel, by decide +kernel⟩, List.mem_of_getElem? (i := 802) (by decide +kernel), List.mem_of_getElem? (i := 988) (by decide +kernel), List.mem_of_getElem? (i := 989) (by decide +kernel)⟩
theorem lw_p43 : lw_okq (⟨"StopPressModel", "copyNow", "(II)I"⟩, 32) := ⟨⟨by decide +kernel, by decide +kernel⟩, List.mem_of_getElem? (i := 802) (by decide +kernel), List.mem_of_getElem? (i := 996) (by decide +kernel), List.mem_of_getElem? (i := 997) (by decide +kernel)⟩
theorem lw_p44 : lw_okq (⟨"StopPressModel", "layStates", "()V"⟩, 32) := ⟨⟨by decide +kernel, by decide +kernel⟩, List.mem_of_getElem? (i := 802) (by decide +kernel), List.mem_of_getElem? (i := 1000) (by decide +kernel), List.mem_of_getElem? (i := 1001) (by decide +kernel)⟩
theorem lw_p45 : lw_okq (⟨"StopPressModel", "layReading", "(I)V"⟩, 32) := ⟨⟨by decide +kernel, by decide +kernel⟩, List.mem_of_getElem? (i := 802) (by decide +kernel), List.mem_of_getElem? (i := 1004) (by decide +kernel), List.mem_of_getElem? (i := 1005) (by decide +kernel)⟩
theorem lw_p46 : lw_okq (⟨"StopPressModel", "unlike", "(II)I"⟩, 32) := ⟨⟨by decide +kernel, by decide +kernel⟩, List.mem_of_getElem? (i := 802) (by decide +kernel), List.mem_of_getElem? (i := 1008) (by decide +kernel), List.mem_of_getElem? (i := 1009) (by decide +kernel)⟩
theorem lw_p47 : lw_okq (⟨"StopPressModel", "places", "()I"⟩, 32) := ⟨⟨by decide +kernel, by decide +kernel⟩, List.mem_of_getElem? (i := 802) (by decide +kernel), List.mem_of_getElem? (i := 1012) (by decide +kernel), List.mem_of_getElem? (i := 1013) (by decide +kernel)⟩
def lw_privs_3 : List (MethodName × Nat) := [(⟨"StopPressModel", "isCopyPage", "()Z"⟩, 32), (⟨"StopPressModel", "readInto", "(I)V"⟩, 32), (⟨"StopPressModel", "isCopy", "(I)Z"⟩, 32), (⟨"StopPressModel", "collateNow", "(III)I"⟩, 32), (⟨"StopPressModel", "layCollation", "(II)V"⟩, 32), (⟨"StopPressModel", "leastCost", "(II)I"⟩, 32), (⟨"StopPressModel", "costBy", "(III)I"⟩, 32), (⟨"StopPressModel", "letterAt", "(II)I"⟩, 32), (⟨"StopPressModel", "isCollated", "()Z"⟩, 32), (⟨"StopPressModel", "stepsOf", "(I)I"⟩, 32), (⟨"StopPressModel", "stepNow", "(III)I"⟩, 32), (⟨"StopPressModel", "copyNow", "(II)I"⟩, 32), (⟨"StopPressModel", "layStates", "()V"⟩, 32), (⟨"StopPressModel", "layReading", "(I)V"⟩, 32), (⟨"StopPressModel", "unlike", "(II)I"⟩, 32), (⟨"StopPressModel", "places", "()I"⟩, 32)]
theorem lw_r3 : ∀ q ∈ lw_privs_3, lw_okq q := List.forall_mem_cons.mpr ⟨lw_p32, List.forall_mem_cons.mpr ⟨lw_p33, List.forall_mem_cons.mpr ⟨lw_p34, List.forall_mem_cons.mpr ⟨lw_p35, List.forall_mem_cons.mpr ⟨lw_p36, List.forall_mem_cons.mpr ⟨lw_p37, List.forall_mem_cons.mpr ⟨lw_p38, List.forall_mem_cons.mpr ⟨lw_p39, List.forall_mem_cons.mpr ⟨lw_p40, List.forall_mem_cons.mpr ⟨lw_p41, List.forall_mem_cons.mpr ⟨lw_p42, List.forall_mem_cons.mpr ⟨lw_p43, List.forall_mem_cons.mpr ⟨lw_p44, List.forall_mem_cons.mpr ⟨lw_p45, List.forall_mem_cons.mpr ⟨lw_p46, List.forall_mem_cons.mpr ⟨lw_p47, fun _ h => absurd h List.not_mem_nil⟩⟩⟩⟩⟩⟩⟩⟩⟩⟩⟩⟩⟩⟩⟩⟩
theorem lw_p48 : lw_okq (⟨"StopPressModel", "layTree", "()V"⟩, 32) := ⟨⟨by decide +kernel, by decide +kernel⟩, List.mem_of_getElem? (i := 802) (by decide +kernel), List.mem_of_getElem? (i := 1016) (by decide +kernel), List.mem_of_getElem? (i := 1017) (by decide +kernel)⟩
theorem lw_p49 : lw_okq (⟨"StopPressModel", "farNow", "(II)I"⟩, 32) := ⟨⟨by decide +kernel, by decide +kernel⟩, List.mem_of_getElem? (i := 802) (by decide +kernel), List.mem_of_getElem? (i := 1020) (by decide +kernel), List.mem_of_getElem? (i := 1021) (by decide +kernel)⟩
theorem lw_p50 : lw_okq (⟨"StopPressModel", "costOf", "(I)I"⟩, 32) := ⟨⟨by decide +kernel, by decide +kernel⟩, List.mem_of_getElem? (i := 802) (by decide +kernel), List.mem_of_getElem? (i := 1024) (by decide +kernel), List.mem_of_getElem? (i := 1025) (by decide +kernel)⟩
theorem lw_p51 : lw_okq (⟨"StopPressModel", "moreOf", "(I)I"⟩, 32) := ⟨⟨by decide +kernel, by decide +kernel⟩, List.mem_of_getElem? (i := 802) (by decide +kernel), List.mem_of_getElem? (i := 1028) (by decide +kernel), List.mem_of_getElem? (i := 1029) (by decide +kernel)⟩
theorem lw_p52 : lw_okq (⟨"StopPressModel", "otherReadings", "(I)I"⟩, 32) := ⟨⟨by decide +kernel, by decide +kernel⟩, List.mem_of_getElem? (i := 802) (by decide +kernel), List.mem_of_getElem? (i := 1032) (by decide +kernel), List.mem_of_getElem? (i := 1033) (by decide +kernel)⟩
theorem lw_p53 : lw_okq (⟨"StopPressModel", "statesNow", "(I)I"⟩, 32) := ⟨⟨by decide +kernel, by decide +kernel⟩, List.mem_of_getElem? (i := 802) (by decide +kernel), List.mem_of_getElem? (i := 1048) (by decide +kernel), List.mem_of_getElem? (i := 1049) (by decide +kernel)⟩
theorem lw_p54 : lw_okq (⟨"StopPressModel", "outMany", "()I"⟩, 32) := ⟨⟨by decide +kernel, by decide +kernel⟩, List.mem_of_getElem? (i := 802) (by decide +kernel), List.mem_of_getElem? (i := 1052) (by decide +kernel), List.mem_of_getElem? (i := 1053) (by decide +kernel)⟩
theorem lw_p55 : lw_okq (⟨"StopPressModel", "changes", "()I"⟩, 32) := ⟨⟨by decide +kernel, by decide +kernel⟩, List.mem_of_getElem? (i := 802) (by decide +kernel), List.mem_of_getElem? (i := 1056) (by decide +kernel), List.mem_of_getElem? (i := 1057) (by decide +kernel)⟩
theorem lw_p56 : lw_okq (⟨"StopPressModel", "unlikePlaces", "()I"⟩, 32) := ⟨⟨by decide +kernel, by decide +kernel⟩, List.mem_of_getElem? (i := 802) (by decide +kernel), List.mem_of_getElem? (i := 1060) (by decide +kernel), List.mem_of_getElem? (i := 1061) (by decide +kernel)⟩
theorem lw_p57 : lw_okq (⟨"StopPressModel", "readingOf", "(II)I"⟩, 32) := ⟨⟨by decide +kernel, by decide +kernel⟩, List.mem_of_getElem? (i := 802) (by decide +kernel), List.mem_of_getElem? (i := 1064) (by decide +kernel), List.mem_of_getElem? (i := 1065) (by decide +kernel)⟩
theorem lw_p58 : lw_okq (⟨"StopPressModel", "turnedAll", "()I"⟩, 32) := ⟨⟨by decide +kernel, by decide +kernel⟩, List.mem_of_getElem? (i := 802) (by decide +kernel), List.mem_of_getElem? (i := 1068) (by decide +kernel), List.mem_of_getElem? (i := 1069) (by decide +kernel)⟩
theorem lw_p59 : lw_okq (⟨"StopPressModel", "turnedMany", "(I)I"⟩, 32) := ⟨⟨by decide +kernel, by decide +kernel⟩, List.mem_of_getElem? (i := 802) (by decide +kernel), List.mem_of_getElem? (i := 1072) (by decide +kernel), List.mem_of_getElem? (i := 1073) (by decide +kernel)⟩
theorem lw_p60 : lw_okq (⟨"StopPressModel", "isTurned", "(II)Z"⟩, 32) := ⟨⟨by decide +kernel, by decide +kernel⟩, List.mem_of_getElem? (i := 802) (by decide +kernel), List.mem_of_getElem? (i := 1076) (by decide +kernel), List.mem_of_getElem? (i := 1077) (by decide +kernel)⟩
theorem lw_p61 : lw_okq (⟨"StopPressModel", "childless", "()I"⟩, 32) := ⟨⟨by decide +kernel, by decide +kernel⟩, List.mem_of_getElem? (i := 802) (by decide +kernel), List.mem_of_getElem? (i := 1080) (by decide +kernel), List.mem_of_getElem? (i := 1081) (by decide +kernel)⟩
theorem lw_p62 : lw_okq (⟨"StopPressModel", "stateNow", "(II)I"⟩, 32) := ⟨⟨by decide +kernel, by decide +kernel⟩, List.mem_of_getElem? (i := 802) (by decide +kernel), List.mem_of_getElem? (i := 1088) (by decide +kernel), List.mem_of_getElem? (i := 1089) (by decide +kernel)⟩
theorem lw_p63 : lw_okq (⟨"StopPressModel", "tellState", "(II)I"⟩, 32) := ⟨⟨by decide +kernel, by decide +kernel⟩, List.mem_of_getElem? (i := 802) (by decide +kernel), List.mem_of_getElem? (i := 1092) (by decide +kernel), List.mem_of_getElem? (i := 1093) (by decide +kernel)⟩
def lw_privs_4 : List (MethodName × Nat) := [(⟨"StopPressModel", "layTree", "()V"⟩, 32), (⟨"StopPressModel", "farNow", "(II)I"⟩, 32), (⟨"StopPressModel", "costOf", "(I)I"⟩, 32), (⟨"StopPressModel", "moreOf", "(I)I"⟩, 32), (⟨"StopPressModel", "otherReadings", "(I)I"⟩, 32), (⟨"StopPressModel", "statesNow", "(I)I"⟩, 32), (⟨"StopPressModel", "outMany", "()I"⟩, 32), (⟨"StopPressModel", "changes", "()I"⟩, 32), (⟨"StopPressModel", "unlikePlaces", "()I"⟩, 32), (⟨"StopPressModel", "readingOf", "(II)I"⟩, 32), (⟨"StopPressModel", "turnedAll", "()I"⟩, 32), (⟨"StopPressModel", "turnedMany", "(I)I"⟩, 32), (⟨"StopPressModel", "isTurned", "(II)Z"⟩, 32), (⟨"StopPressModel", "childless", "()I"⟩, 32), (⟨"StopPressModel", "stateNow", "(II)I"⟩, 32), (⟨"StopPressModel", "tellState", "(II)I"⟩, 32)]
theorem lw_r4 : ∀ q ∈ lw_privs_4, lw_okq q := List.forall_mem_cons.mpr ⟨lw_p48, List.forall_mem_cons.mpr ⟨lw_p49, List.forall_mem_cons.mpr ⟨lw_p50, List.forall_mem_cons.mpr ⟨lw_p51, List.forall_mem_cons.mpr ⟨lw_p52, List.forall_mem_cons.mpr ⟨lw_p53, List.forall_mem_cons.mpr ⟨lw_p54, List.forall_mem_cons.mpr ⟨lw_p55, List.forall_mem_cons.mpr ⟨lw_p56, List.forall_mem_cons.mpr ⟨lw_p57, List.forall_mem_cons.mpr ⟨lw_p58, List.forall_mem_cons.mpr ⟨lw_p59, List.forall_mem_cons.mpr ⟨lw_p60, List.forall_mem_cons.mpr ⟨lw_p61, List.forall_mem_cons.mpr ⟨lw_p62, List.forall_mem_cons.mpr ⟨lw_p63, fun _ h => absurd h List.not_mem_nil⟩⟩⟩⟩⟩⟩⟩⟩⟩⟩⟩⟩⟩⟩⟩⟩
theorem lw_p64 : lw_okq (⟨"StopPressModel", "copiesIn", "(I)I"⟩, 32) := ⟨⟨by decide +kernel, by decide +kernel⟩, List.mem_of_getElem? (i := 802) (by decide +kernel), List.mem_of_getElem? (i := 1096) (by decide +kernel), List.mem_of_getElem? (i := 1097) (by decide +kernel)⟩
theorem lw_p65 : lw_okq (⟨"StopPressModel", "above", "(I)I"⟩, 32) := ⟨⟨by decide +kernel, by decide +kernel⟩, List.mem_of_getElem? (i := 802) (by decide +kernel), List.mem_of_getElem? (i := 1100) (by decide +kernel), List.mem_of_getElem? (i := 1101) (by decide +kernel)⟩
theorem lw_p66 : lw_okq (⟨"StopPressModel", "isTaken", "(III)Z"⟩, 32) := ⟨⟨by decide +kernel, by decide +kernel⟩, List.mem_of_getElem? (i := 802) (by decide +kernel), List.mem_of_getElem? (i := 1116) (by decide +kernel), List.mem_of_getElem? (i := 1117) (by decide +kernel)⟩
theorem lw_p67 : lw_okq (⟨"StopPressModel", "isSighting", "(I)Z"⟩, 32) := ⟨⟨by decide +kernel, by decide +kernel⟩, List.mem_of_getElem? (i := 802) (by decide +kernel), List.mem_of_getElem? (i := 1124) (by decide +kernel), List.mem_of_getElem? (i := 1125) (by decide +kernel)⟩
theorem lw_p68 : lw_okq (⟨"StopPressModel", "sightingNow", "(II)I"⟩, 32) := ⟨⟨by decide +kernel, by decide +kernel⟩, List.mem_of_getElem? (i := 802) (by decide +kernel), List.mem_of_getElem? (i := 1132) (by decide +kernel), List.mem_of_getElem? (i := 1133) (by decide +kernel)⟩
theorem lw_p69 : lw_okq (⟨"StopPressModel", "orderAt", "(I)I"⟩, 32) := ⟨⟨by decide +kernel, by decide +kernel⟩, List.mem_of_getElem? (i := 802) (by decide +kernel), List.mem_of_getElem? (i := 1140) (by decide +kernel), List.mem_of_getElem? (i := 1141) (by decide +kernel)⟩
theorem lw_p70 : lw_okq (⟨"StopPressModel", "allSightings", "()I"⟩, 32) := ⟨⟨by decide +kernel, by decide +kernel⟩, List.mem_of_getElem? (i := 802) (by decide +kernel), List.mem_of_getElem? (i := 1144) (by decide +kernel), List.mem_of_getElem? (i := 1145) (by decide +kernel)⟩
theorem lw_p71 : lw_okq (⟨"StopPressModel", "orders", "(I)I"⟩, 32) := ⟨⟨by decide +kernel, by decide +kernel⟩, List.mem_of_getElem? (i := 802) (by decide +kernel), List.mem_of_getElem? (i := 1148) (by decide +kernel), List.mem_of_getElem? (i := 1149) (by decide +kernel)⟩
theorem lw_p72 : lw_okq (⟨"StopPressModel", "layAhead", "(I)V"⟩, 32) := ⟨⟨by decide +kernel, by decide +kernel⟩, List.mem_of_getElem? (i := 802) (by decide +kernel), List.mem_of_getElem? (i := 1152) (by decide +kernel), List.mem_of_getElem? (i := 1153) (by decide +kernel)⟩
theorem lw_p73 : lw_okq (⟨"StopPressModel", "layWays", "()V"⟩, 32) := ⟨⟨by decide +kernel, by decide +kernel⟩, List.mem_of_getElem? (i := 802) (by decide +kernel), List.mem_of_getElem? (i := 1159) (by decide +kernel), List.mem_of_getElem? (i := 1160) (by decide +kernel)⟩
theorem lw_p74 : lw_okq (⟨"StopPressModel", "canBeFirst", "(II)Z"⟩, 32) := ⟨⟨by decide +kernel, by decide +kernel⟩, List.mem_of_getElem? (i := 802) (by decide +kernel), List.mem_of_getElem? (i := 1163) (by decide +kernel), List.mem_of_getElem? (i := 1164) (by decide +kernel)⟩
theorem lw_p75 : lw_okq (⟨"StopPressModel", "formeNow", "(II)I"⟩, 32) := ⟨⟨by decide +kernel, by decide +kernel⟩, List.mem_of_getElem? (i := 802) (by decide +kernel), List.mem_of_getElem? (i := 1174) (by decide +kernel), List.mem_of_getElem? (i := 1175) (by decide +kernel)⟩
theorem lw_p76 : lw_okq (⟨"StopPressModel", "onForme", "(I)I"⟩, 32) := ⟨⟨by decide +kernel, by decide +kernel⟩, List.mem_of_getElem? (i := 802) (by decide +kernel), List.mem_of_getElem? (i := 1178) (by decide +kernel), List.mem_of_getElem? (i := 1179) (by decide +kernel)⟩
theorem lw_p77 : lw_okq (⟨"StopPressModel", "togetherWith", "(I)I"⟩, 32) := ⟨⟨by decide +kernel, by decide +kernel⟩, List.mem_of_getElem? (i := 802) (by decide +kernel), List.mem_of_getElem? (i := 1182) (by decide +kernel), List.mem_of_getElem? (i := 1183) (by decide +kernel)⟩
theorem lw_p78 : lw_okq (⟨"StopPressModel", "typesOn", "(I)I"⟩, 32) := ⟨⟨by decide +kernel, by decide +kernel⟩, List.mem_of_getElem? (i := 802) (by decide +kernel), List.mem_of_getElem? (i := 1186) (by decide +kernel), List.mem_of_getElem? (i := 1187) (by decide +kernel)⟩
theorem lw_p79 : lw_okq (⟨"StopPressModel", "placeOf", "(I)I"⟩, 32) := ⟨⟨by decide +kernel, by decide +kernel⟩, List.mem_of_getElem? (i := 802) (by decide +kernel), List.mem_of_getElem? (i := 1190) (by decide +kernel), List.mem_of_getElem? (i := 1191) (by decide +kernel)⟩
def lw_privs_5 : List (MethodName × Nat) := [(⟨"StopPressModel", "copiesIn", "(I)I"⟩, 32), (⟨"StopPressModel", "above", "(I)I"⟩, 32), (⟨"StopPressModel", "isTaken", "(III)Z"⟩, 32), (⟨"StopPressModel", "isSighting", "(I)Z"⟩, 32), (⟨"StopPressModel", "sightingNow", "(II)I"⟩, 32), (⟨"StopPressModel", "orderAt", "(I)I"⟩, 32), (⟨"StopPressModel", "allSightings", "()I"⟩, 32), (⟨"StopPressModel", "orders", "(I)I"⟩, 32), (⟨"StopPressModel", "layAhead", "(I)V"⟩, 32), (⟨"StopPressModel", "layWays", "()V"⟩, 32), (⟨"StopPressModel", "canBeFirst", "(II)Z"⟩, 32), (⟨"StopPressModel", "formeNow", "(II)I"⟩, 32), (⟨"StopPressModel", "onForme", "(I)I"⟩, 32), (⟨"StopPressModel", "togetherWith", "(I)I"⟩, 32), (⟨"StopPressModel", "typesOn", "(I)I"⟩, 32), (⟨"StopPressModel", "placeOf", "(I)I"⟩, 32)]
theorem lw_r5 : ∀ q ∈ lw_privs_5, lw_okq q := List.forall_mem_cons.mpr ⟨lw_p64, List.forall_mem_cons.mpr ⟨lw_p65, List.forall_mem_cons.mpr ⟨lw_p66, List.forall_mem_cons.mpr ⟨lw_p67, List.forall_mem_cons.mpr ⟨lw_p68, List.forall_mem_cons.mpr ⟨lw_p69, List.forall_mem_cons.mpr ⟨lw_p70, List.forall_mem_cons.mpr ⟨lw_p71, List.forall_mem_cons.mpr ⟨lw_p72, List.forall_mem_cons.mpr ⟨lw_p73, List.forall_mem_cons.mpr ⟨lw_p74, List.forall_mem_cons.mpr ⟨lw_p75, List.forall_mem_cons.mpr ⟨lw_p76, List.forall_mem_cons.mpr ⟨lw_p77, List.forall_mem_cons.mpr ⟨lw_p78, List.forall_mem_cons.mpr ⟨lw_p79, fun _ h => absurd h List.not_mem_nil⟩⟩⟩⟩⟩⟩⟩⟩⟩⟩⟩⟩⟩⟩⟩⟩
theorem lw_p80 : lw_okq (⟨"StopPressModel", "pressNow", "(I)I"⟩, 32) := ⟨⟨by decide +kernel, by decide +kernel⟩, List.mem_of_getElem? (i := 802) (by decide +kernel), List.mem_of_getElem? (i := 1194) (by decide +kernel), List.mem_of_getElem? (i := 1195) (by decide +kernel)⟩
theorem lw_p81 : lw_okq (⟨"StopPressModel", "layPresses", "()V"⟩, 32) := ⟨⟨by decide +kernel, by decide +kernel⟩, List.mem_of_getElem? (i := 802) (by decide +kernel), List.mem_of_getElem? (i := 1198) (by decide +kernel), List.mem_of_getElem? (i := 1199) (by decide +kernel)⟩
theorem lw_p82 : lw_okq (⟨"StopPressModel", "findsRoom", "(I)Z"⟩, 32) := ⟨⟨by decide +kernel, by decide +kernel⟩, List.mem_of_getElem? (i := 802) (by decide +kernel), List.mem_of_getElem? (i := 1202) (by decide +kernel), List.mem_of_getElem? (i := 1203) (by decide +kernel)⟩
theorem lw_p83 : lw_okq (⟨"StopPressModel", "goesOn", "(I)I"⟩, 32) := ⟨⟨by decide +kernel, by decide +kernel⟩, List.mem_of_getElem? (i := 802) (by decide +kernel), List.mem_of_getElem? (i := 1206) (by decide +kernel), List.mem_of_getElem? (i := 1207) (by decide +kernel)⟩
theorem lw_p84 : lw_okq (⟨"StopPressModel", "goesBack", "(I)I"⟩, 32) := ⟨⟨by decide +kernel, by decide +kernel⟩, List.mem_of_getElem? (i := 802) (by decide +kernel), List.mem_of_getElem? (i := 1210) (by decide +kernel), List.mem_of_getElem? (i := 1211) (by decide +kernel)⟩
theorem lw_p85 : lw_okq (⟨"StopPressModel", "mayBeOn", "(II)Z"⟩, 32) := ⟨⟨by decide +kernel, by decide +kernel⟩, List.mem_of_getElem? (i := 802) (by decide +kernel), List.mem_of_getElem? (i := 1214) (by decide +kernel), List.mem_of_getElem? (i := 1215) (by decide +kernel)⟩
theorem lw_p86 : lw_okq (⟨"StopPressModel", "formesNow", "(I)I"⟩, 32) := ⟨⟨by decide +kernel, by decide +kernel⟩, List.mem_of_getElem? (i := 802) (by decide +kernel), List.mem_of_getElem? (i := 1222) (by decide +kernel), List.mem_of_getElem? (i := 1223) (by decide +kernel)⟩
theorem lw_p87 : lw_okq (⟨"StopPressModel", "faultNow", "()I"⟩, 32) := ⟨⟨by decide +kernel, by decide +kernel⟩, List.mem_of_getElem? (i := 802) (by decide +kernel), List.mem_of_getElem? (i := 1226) (by decide +kernel), List.mem_of_getElem? (i := 1227) (by decide +kernel)⟩
theorem lw_p88 : lw_okq (⟨"StopPressModel", "pressesNow", "()I"⟩, 32) := ⟨⟨by decide +kernel, by decide +kernel⟩, List.mem_of_getElem? (i := 802) (by decide +kernel), List.mem_of_getElem? (i := 1230) (by decide +kernel), List.mem_of_getElem? (i := 1231) (by decide +kernel)⟩
theorem lw_p89 : lw_okq (⟨"StopPressModel", "typesSeen", "()I"⟩, 32) := ⟨⟨by decide +kernel, by decide +kernel⟩, List.mem_of_getElem? (i := 802) (by decide +kernel), List.mem_of_getElem? (i := 1234) (by decide +kernel), List.mem_of_getElem? (i := 1235) (by decide +kernel)⟩
theorem lw_p90 : lw_okq (⟨"StopPressModel", "howMany", "(I)I"⟩, 32) := ⟨⟨by decide +kernel, by decide +kernel⟩, List.mem_of_getElem? (i := 802) (by decide +kernel), List.mem_of_getElem? (i := 1242) (by decide +kernel), List.mem_of_getElem? (i := 1243) (by decide +kernel)⟩
theorem lw_p91 : lw_okq (⟨"StopPressModel", "mixCopies", "()V"⟩, 32) := ⟨⟨by decide +kernel, by decide +kernel⟩, List.mem_of_getElem? (i := 802) (by decide +kernel), List.mem_of_getElem? (i := 1251) (by decide +kernel), List.mem_of_getElem? (i := 1252) (by decide +kernel)⟩
theorem lw_p92 : lw_okq (⟨"StopPressModel", "mix", "(J)V"⟩, 32) := ⟨⟨by decide +kernel, by decide +kernel⟩, List.mem_of_getElem? (i := 802) (by decide +kernel), List.mem_of_getElem? (i := 1255) (by decide +kernel), List.mem_of_getElem? (i := 1256) (by decide +kernel)⟩
theorem lw_p93 : lw_okq (⟨"StopPressModel", "mixStates", "()V"⟩, 32) := ⟨⟨by decide +kernel, by decide +kernel⟩, List.mem_of_getElem? (i := 802) (by decide +kernel), List.mem_of_getElem? (i := 1260) (by decide +kernel), List.mem_of_getElem? (i := 1261) (by decide +kernel)⟩
theorem lw_p94 : lw_okq (⟨"StopPressModel", "mixFormes", "()V"⟩, 32) := ⟨⟨by decide +kernel, by decide +kernel⟩, List.mem_of_getElem? (i := 802) (by decide +kernel), List.mem_of_getElem? (i := 1264) (by decide +kernel), List.mem_of_getElem? (i := 1265) (by decide +kernel)⟩
def lw_privs_6 : List (MethodName × Nat) := [(⟨"StopPressModel", "pressNow", "(I)I"⟩, 32), (⟨"StopPressModel", "layPresses", "()V"⟩, 32), (⟨"StopPressModel", "findsRoom", "(I)Z"⟩, 32), (⟨"StopPressModel", "goesOn", "(I)I"⟩, 32), (⟨"StopPressModel", "goesBack", "(I)I"⟩, 32), (⟨"StopPressModel", "mayBeOn", "(II)Z"⟩, 32), (⟨"StopPressModel", "formesNow", "(I)I"⟩, 32), (⟨"StopPressModel", "faultNow", "()I"⟩, 32), (⟨"StopPressModel", "pressesNow", "()I"⟩, 32), (⟨"StopPressModel", "typesSeen", "()I"⟩, 32), (⟨"StopPressModel", "howMany", "(I)I"⟩, 32), (⟨"StopPressModel", "mixCopies", "()V"⟩, 32), (⟨"StopPressModel", "mix", "(J)V"⟩, 32), (⟨"StopPressModel", "mixStates", "()V"⟩, 32), (⟨"StopPressModel", "mixFormes", "()V"⟩, 32)]
theorem lw_r6 : ∀ q ∈ lw_privs_6, lw_okq q := List.forall_mem_cons.mpr ⟨lw_p80, List.forall_mem_cons.mpr ⟨lw_p81, List.forall_mem_cons.mpr ⟨lw_p82, List.forall_mem_cons.mpr ⟨lw_p83, List.forall_mem_cons.mpr ⟨lw_p84, List.forall_mem_cons.mpr ⟨lw_p85, List.forall_mem_cons.mpr ⟨lw_p86, List.forall_mem_cons.mpr ⟨lw_p87, List.forall_mem_cons.mpr ⟨lw_p88, List.forall_mem_cons.mpr ⟨lw_p89, List.forall_mem_cons.mpr ⟨lw_p90, List.forall_mem_cons.mpr ⟨lw_p91, List.forall_mem_cons.mpr ⟨lw_p92, List.forall_mem_cons.mpr ⟨lw_p93, List.forall_mem_cons.mpr ⟨lw_p94, fun _ h => absurd h List.not_mem_nil⟩⟩⟩⟩⟩⟩⟩⟩⟩⟩⟩⟩⟩⟩⟩
def lw_privs : List (MethodName × Nat) := lw_privs_1 ++ (lw_privs_2 ++ (lw_privs_3 ++ (lw_privs_4 ++ (lw_privs_5 ++ (lw_privs_6)))))
def lw_tbl : List Cond := k2_sels lw_privs ++ tables_1
theorem lw_privs_ok : ∀ q ∈ lw_privs, lw_okq q := by
  show ∀ q ∈ lw_privs_1 ++ (lw_privs_2 ++ (lw_privs_3 ++ (lw_privs_4 ++ (lw_privs_5 ++ (lw_privs_6))))), lw_okq q
  exact List.forall_mem_append.mpr ⟨lw_r1, List.forall_mem_append.mpr ⟨lw_r2, List.forall_mem_append.mpr ⟨lw_r3, List.forall_mem_append.mpr ⟨lw_r4, List.forall_mem_append.mpr ⟨lw_r5, lw_r6⟩⟩⟩⟩⟩
end
section
def RX0 : String := "StopPress$Aligner"
def TX0 : u_T := fun k => match k with
  | _ => ("StopPress$Aligner", "least", "[I", true)
def tyX0 : Nat → FieldType := fun k => match k with
  | _ => .array .int
abbrev wsX00 : List Cond := u_ws RX0 TX0 1
theorem nmX0 : ∀ a, a < 1 → ∀ b, b < 1 → a ≠ b → (TX0 a).2.1 ≠ (TX0 b).2.1 := by decide +kernel
theorem tyX0_ok : ∀ k, k < 1 → parseFieldDescriptor (TX0 k).2.2.1 = some (tyX0 k) := by decide +kernel
def RX1 : String := "StopPress$Alignment"
def TX1 : u_T := fun k => match k with
  | 0 => ("StopPress$Alignment", "steps", "[I", true)
  | 1 => ("StopPress$Alignment", "tallies", "[I", true)
  | 2 => ("StopPress$Alignment", "known", "Z", false)
  | _ => ("StopPress$Alignment", "found", "Z", false)
def tyX1 : Nat → FieldType := fun k => match k with
  | 0 => .array .int
  | 1 => .array .int
  | 2 => .boolean
  | _ => .boolean
abbrev wsX10 : List Cond := u_ws RX1 TX1 4
theorem nmX1 : ∀ a, a < 4 → ∀ b, b < 4 → a ≠ b → (TX1 a).2.1 ≠ (TX1 b).2.1 := by decide +kernel
theorem tyX1_ok : ∀ k, k < 4 → parseFieldDescriptor (TX1 k).2.2.1 = some (tyX1 k) := by decide +kernel
def RX2 : String := "StopPress$Chronology"
def TX2 : u_T := fun k => match k with
  | 0 => ("StopPress$Chronology", "typesOn", "[I", true)
  | 1 => ("StopPress$Chronology", "companions", "[I", true)
  | 2 => ("StopPress$Chronology", "ahead", "[I", true)
  | 3 => ("StopPress$Chronology", "ways", "[I", true)
  | 4 => ("StopPress$Chronology", "first", "[I", true)
  | 5 => ("StopPress$Chronology", "seenSet", "I", false)
  | 6 => ("StopPress$Chronology", "orders", "I", false)
  | _ => ("StopPress$Chronology", "builtFor", "I", false)
def tyX2 : Nat → FieldType := fun k => match k with
  | 0 => .array .int
  | 1 => .array .int
  | 2 => .array .int
  | 3 => .array .int
  | 4 => .array .int
  | 5 => .int
  | 6 => .int
  | _ => .int
abbrev wsX20 : List Cond := u_ws RX2 TX2 8
theorem nmX2 : ∀ a, a < 8 → ∀ b, b < 8 → a ≠ b → (TX2 a).2.1 ≠ (TX2 b).2.1 := by decide +kernel
theorem tyX2_ok : ∀ k, k < 8 → parseFieldDescriptor (TX2 k).2.2.1 = some (tyX2 k) := by decide +kernel
def RX3 : String := "StopPress$Collation"
def TX3 : u_T := fun k => match k with
  | 0 => ("StopPress$Collation", "texts", "[LStopPress$Text;", true)
  | 1 => ("StopPress$Collation", "alignments", "[LStopPress$Alignment;", true)
  | 2 => ("StopPress$Collation", "aligner", "LStopPress$Aligner;", true)
  | 3 => ("StopPress$Collation", "size", "I", false)
  | 4 => ("StopPress$Collation", "reach", "I", false)
  | _ => ("StopPress$Collation", "changes", "I", false)
def tyX3 : Nat → FieldType := fun k => match k with
  | 0 => .array (.object "StopPress$Text")
  | 1 => .array (.object "StopPress$Alignment")
  | 2 => .object "StopPress$Aligner"
  | 3 => .int
  | 4 => .int
  | _ => .int
abbrev wsX30 : List Cond := u_ws RX3 TX3 6
theorem nmX3 : ∀ a, a < 6 → ∀ b, b < 6 → a ≠ b → (TX3 a).2.1 ≠ (TX3 b).2.1 := by decide +kernel
theorem tyX3_ok : ∀ k, k < 6 → parseFieldDescriptor (TX3 k).2.2.1 = some (tyX3 k) := by decide +kernel
def RX4 : String := "StopPress$Fault"
def TX4 : u_T := fun k => match k with
  | 0 => ("StopPress$Fault", "pair", "[I", true)
  | 1 => ("StopPress$Fault", "sooner", "[I", true)
  | 2 => ("StopPress$Fault", "later", "[I", true)
  | 3 => ("StopPress$Fault", "ahead", "[I", true)
  | 4 => ("StopPress$Fault", "pairs", "I", false)
  | 5 => ("StopPress$Fault", "set", "I", false)
  | _ => ("StopPress$Fault", "builtFor", "I", false)
def tyX4 : Nat → FieldType := fun k => match k with
  | 0 => .array .int
  | 1 => .array .int
  | 2 => .array .int
  | 3 => .array .int
  | 4 => .int
  | 5 => .int
  | _ => .int
abbrev wsX40 : List Cond := u_ws RX4 TX4 7
theorem nmX4 : ∀ a, a < 7 → ∀ b, b < 7 → a ≠ b → (TX4 a).2.1 ≠ (TX4 b).2.1 := by decide +kernel
theorem tyX4_ok : ∀ k, k < 7 → parseFieldDescriptor (TX4 k).2.2.1 = some (tyX4 k) := by decide +kernel
def RX5 : String := "StopPress$Presses"
def TX5 : u_T := fun k => match k with
  | 0 => ("StopPress$Presses", "pressOf", "[I", true)
  | 1 => ("StopPress$Presses", "number", "I", false)
  | _ => ("StopPress$Presses", "builtFor", "I", false)
def tyX5 : Nat → FieldType := fun k => match k with
  | 0 => .array .int
  | 1 => .int
  | _ => .int
abbrev wsX50 : List Cond := u_ws RX5 TX5 3
theorem nmX5 : ∀ a, a < 3 → ∀ b, b < 3 → a ≠ b → (TX5 a).2.1 ≠ (TX5 b).2.1 := by decide +kernel
theorem tyX5_ok : ∀ k, k < 3 → parseFieldDescriptor (TX5 k).2.2.1 = some (tyX5 k) := by decide +kernel
def RX6 : String := "StopPress$Sightings"
def TX6 : u_T := fun k => match k with
  | 0 => ("StopPress$Sightings", "rows", "[[I", true)
  | 1 => ("StopPress$Sightings", "size", "I", false)
  | _ => ("StopPress$Sightings", "changes", "I", false)
def tyX6 : Nat → FieldType := fun k => match k with
  | 0 => .array (.array .int)
  | 1 => .int
  | _ => .int
abbrev wsX60 : List Cond := u_ws RX6 TX6 3
theorem nmX6 : ∀ a, a < 3 → ∀ b, b < 3 → a ≠ b → (TX6 a).2.1 ≠ (TX6 b).2.1 := by decide +kernel
theorem tyX6_ok : ∀ k, k < 3 → parseFieldDescriptor (TX6 k).2.2.1 = some (tyX6 k) := by decide +kernel
def RX7 : String := "StopPress$Stemma"
def TX7 : u_T := fun k => match k with
  | 0 => ("StopPress$Stemma", "readings", "[[I", true)
  | 1 => ("StopPress$Stemma", "stateOfCopy", "[I", true)
  | 2 => ("StopPress$Stemma", "firstCopy", "[I", true)
  | 3 => ("StopPress$Stemma", "members", "[I", true)
  | 4 => ("StopPress$Stemma", "parent", "[I", true)
  | 5 => ("StopPress$Stemma", "distanceUp", "[I", true)
  | 6 => ("StopPress$Stemma", "joined", "[I", true)
  | 7 => ("StopPress$Stemma", "reverted", "[I", true)
  | 8 => ("StopPress$Stemma", "size", "I", false)
  | 9 => ("StopPress$Stemma", "places", "I", false)
  | 10 => ("StopPress$Stemma", "excluded", "I", false)
  | _ => ("StopPress$Stemma", "builtFor", "I", false)
def tyX7 : Nat → FieldType := fun k => match k with
  | 0 => .array (.array .int)
  | 1 => .array .int
  | 2 => .array .int
  | 3 => .array .int
  | 4 => .array .int
  | 5 => .array .int
  | 6 => .array .int
  | 7 => .array .int
  | 8 => .int
  | 9 => .int
  | 10 => .int
  | _ => .int
abbrev wsX70 : List Cond := u_ws RX7 TX7 12
theorem nmX7 : ∀ a, a < 12 → ∀ b, b < 12 → a ≠ b → (TX7 a).2.1 ≠ (TX7 b).2.1 := by decide +kernel
theorem tyX7_ok : ∀ k, k < 12 → parseFieldDescriptor (TX7 k).2.2.1 = some (tyX7 k) := by decide +kernel
def RX8 : String := "StopPress$Text"
def TX8 : u_T := fun k => match k with
  | 0 => ("StopPress$Text", "codes", "[I", true)
  | _ => ("StopPress$Text", "length", "I", false)
def tyX8 : Nat → FieldType := fun k => match k with
  | 0 => .array .int
  | _ => .int
abbrev wsX80 : List Cond := u_ws RX8 TX8 2
theorem nmX8 : ∀ a, a < 2 → ∀ b, b < 2 → a ≠ b → (TX8 a).2.1 ≠ (TX8 b).2.1 := by decide +kernel
theorem tyX8_ok : ∀ k, k < 2 → parseFieldDescriptor (TX8 k).2.2.1 = some (tyX8 k) := by decide +kernel
def RX9 : String := "StopPress"
def TX9 : u_T := fun k => match k with
  | 0 => ("StopPress", "page", "LStopPress$Text;", true)
  | 1 => ("StopPress", "collation", "LStopPress$Collation;", true)
  | 2 => ("StopPress", "stemma", "LStopPress$Stemma;", true)
  | 3 => ("StopPress", "sightings", "LStopPress$Sightings;", true)
  | 4 => ("StopPress", "chronology", "LStopPress$Chronology;", true)
  | 5 => ("StopPress", "fault", "LStopPress$Fault;", true)
  | 6 => ("StopPress", "presses", "LStopPress$Presses;", true)
  | 7 => ("StopPress", "copiesTaken", "I", false)
  | _ => ("StopPress", "sightingsRemoved", "I", false)
def tyX9 : Nat → FieldType := fun k => match k with
  | 0 => .object "StopPress$Text"
  | 1 => .object "StopPress$Collation"
  | 2 => .object "StopPress$Stemma"
  | 3 => .object "StopPress$Sightings"
  | 4 => .object "StopPress$Chronology"
  | 5 => .object "StopPress$Fault"
  | 6 => .object "StopPress$Presses"
  | 7 => .int
  | _ => .int
abbrev wsX90 : List Cond := u_ws RX9 TX9 9
theorem nmX9 : ∀ a, a < 9 → ∀ b, b < 9 → a ≠ b → (TX9 a).2.1 ≠ (TX9 b).2.1 := by decide +kernel
theorem tyX9_ok : ∀ k, k < 9 → parseFieldDescriptor (TX9 k).2.2.1 = some (tyX9 k) := by decide +kernel
def RX10 : String := "StopPressModel"
def TX10 : u_T := fun k => match k with
  | 0 => ("StopPressModel", "pageLength", "I", false)
  | 1 => ("StopPressModel", "page", "[I", true)
  | 2 => ("StopPressModel", "copies", "I", false)
  | 3 => ("StopPressModel", "lengthOf", "[I", true)
  | 4 => ("StopPressModel", "letters", "[I", true)
  | 5 => ("StopPressModel", "bandNow", "I", false)
  | 6 => ("StopPressModel", "copiesRead", "I", false)
  | 7 => ("StopPressModel", "sightings", "I", false)
  | 8 => ("StopPressModel", "typeOf", "[I", true)
  | 9 => ("StopPressModel", "formeOf", "[I", true)
  | 10 => ("StopPressModel", "spotOf", "[I", true)
  | 11 => ("StopPressModel", "wearOf", "[I", true)
  | 12 => ("StopPressModel", "wentEver", "I", false)
  | 13 => ("StopPressModel", "costs", "[I", true)
  | 14 => ("StopPressModel", "stepMany", "I", false)
  | 15 => ("StopPressModel", "steps", "[I", true)
  | 16 => ("StopPressModel", "laidOne", "I", false)
  | 17 => ("StopPressModel", "laidOther", "I", false)
  | 18 => ("StopPressModel", "readings", "[I", true)
  | 19 => ("StopPressModel", "isOut", "[Z", true)
  | 20 => ("StopPressModel", "states", "I", false)
  | 21 => ("StopPressModel", "stateOf", "[I", true)
  | 22 => ("StopPressModel", "firstOf", "[I", true)
  | 23 => ("StopPressModel", "parentOf", "[I", true)
  | 24 => ("StopPressModel", "cameAs", "[I", true)
  | 25 => ("StopPressModel", "seenFormes", "I", false)
  | 26 => ("StopPressModel", "aheadOf", "[I", true)
  | 27 => ("StopPressModel", "waysOf", "[I", true)
  | 28 => ("StopPressModel", "pressMany", "I", false)
  | 29 => ("StopPressModel", "pressOf", "[I", true)
  | 30 => ("StopPressModel", "together", "[I", true)
  | _ => ("StopPressModel", "h", "J", false)
def tyX10 : Nat → FieldType := fun k => match k with
  | 0 => .int
  | 1 => .array .int
  | 2 => .int
  | 3 => .array .int
  | 4 => .array .int
  | 5 => .int
  | 6 => .int
  | 7 => .int
  | 8 => .array .int
  | 9 => .array .int
  | 10 => .array .int
  | 11 => .array .int
  | 12 => .int
  | 13 => .array .int
  | 14 => .int
  | 15 => .array .int
  | 16 => .int
  | 17 => .int
  | 18 => .array .int
  | 19 => .array .boolean
  | 20 => .int
  | 21 => .array .int
  | 22 => .array .int
  | 23 => .array .int
  | 24 => .array .int
  | 25 => .int
  | 26 => .array .int
  | 27 => .array .int
  | 28 => .int
  | 29 => .array .int
  | 30 => .array .int
  | _ => .long
abbrev wsX100 : List Cond := u_ws RX10 TX10 32
theorem nmX10 : ∀ a, a < 32 → ∀ b, b < 32 → a ≠ b → (TX10 a).2.1 ≠ (TX10 b).2.1 := by decide +kernel
theorem tyX10_ok : ∀ k, k < 32 → parseFieldDescriptor (TX10 k).2.2.1 = some (tyX10 k) := by decide +kernel
def RJ6 : String := "java/lang/Integer"
def RJ9 : String := "java/lang/Math"
def RL : String := "StopPressLaw"
abbrev zD : Type := Nat × MethodName × ByteArray × Nat × Option FieldType
def zCn (c : Nat) : String := match c with
  | 0 => "StopPress$Aligner"
  | 1 => "StopPress$Alignment"
  | 2 => "StopPress$Chronology"
  | 3 => "StopPress$Collation"
  | 4 => "StopPress$Fault"
  | 5 => "StopPress$Presses"
  | 6 => "StopPress$Sightings"
  | 7 => "StopPress$Stemma"
  | 8 => "StopPress$Text"
  | 9 => "StopPress"
  | 10 => "StopPressModel"
  | 11 => "StopPressLaw"
  | 12 => "java/lang/Integer"
  | 13 => "java/lang/Math"
  | _ => "java/lang/Object"
def zm_P_init : zD := (9, ⟨"StopPress", "<init>", "()V"⟩, prog_1_method_1_code, 1, none)
def zm_Text_init : zD := (8, ⟨"StopPress$Text", "<init>", "()V"⟩, prog_10_method_1_code, 1, none)
def zm_Coll_init : zD := (3, ⟨"StopPress$Collation", "<init>", "()V"⟩, prog_5_method_1_code, 2, none)
def zm_Aligner_init : zD := (0, ⟨"StopPress$Aligner", "<init>", "()V"⟩, prog_2_method_1_code, 1, none)
def zm_Alignment_init : zD := (1, ⟨"StopPress$Alignment", "<init>", "()V"⟩, prog_3_method_1_code, 1, none)
def zm_Stemma_init : zD := (7, ⟨"StopPress$Stemma", "<init>", "()V"⟩, prog_9_method_1_code, 1, none)
def zm_Sight_init : zD := (6, ⟨"StopPress$Sightings", "<init>", "()V"⟩, prog_8_method_1_code, 1, none)
def zm_Chrono_init : zD := (2, ⟨"StopPress$Chronology", "<init>", "()V"⟩, prog_4_method_1_code, 1, none)
def zm_Fault_init : zD := (4, ⟨"StopPress$Fault", "<init>", "()V"⟩, prog_6_method_1_code, 1, none)
def zm_Presses_init : zD := (5, ⟨"StopPress$Presses", "<init>", "()V"⟩, prog_7_method_1_code, 1, none)
def zm_P_letter : zD := (9, ⟨"StopPress", "letter", "(I)I"⟩, prog_1_method_2_code, 2, some .int)
def zm_Text_size : zD := (8, ⟨"StopPress$Text", "size", "()I"⟩, prog_10_method_2_code, 1, some .int)
def zm_Text_append : zD := (8, ⟨"StopPress$Text", "append", "(I)V"⟩, prog_10_method_5_code, 2, none)
def zm_P_blank : zD := (9, ⟨"StopPress", "blank", "()I"⟩, prog_1_method_3_code, 2, some .int)
def zm_Text_clear : zD := (8, ⟨"StopPress$Text", "clear", "()V"⟩, prog_10_method_6_code, 1, none)
def zm_P_copy : zD := (9, ⟨"StopPress", "copy", "()I"⟩, prog_1_method_4_code, 2, some .int)
def zm_Text_isWord : zD := (8, ⟨"StopPress$Text", "isWord", "()Z"⟩, prog_10_method_8_code, 2, some .boolean)
def zm_Coll_size : zD := (3, ⟨"StopPress$Collation", "size", "()I"⟩, prog_5_method_2_code, 1, some .int)
def zm_Coll_put : zD := (3, ⟨"StopPress$Collation", "put", "(ILStopPress$Text;)V"⟩, prog_5_method_7_code, 4, none)
def zm_Math_max : zD := (13, ⟨"java/lang/Math", "max", "(II)I"⟩, prog_14_method_65_code, 2, some .int)
def zm_Text_takeFrom : zD := (8, ⟨"StopPress$Text", "takeFrom", "(LStopPress$Text;)V"⟩, prog_10_method_7_code, 3, none)
def zm_Text_at : zD := (8, ⟨"StopPress$Text", "at", "(I)I"⟩, prog_10_method_4_code, 2, some .int)
def zm_Alignment_forget : zD := (1, ⟨"StopPress$Alignment", "forget", "()V"⟩, prog_3_method_4_code, 1, none)
def zm_P_correct : zD := (9, ⟨"StopPress", "correct", "(I)I"⟩, prog_1_method_5_code, 3, some .int)
def zm_Coll_has : zD := (3, ⟨"StopPress$Collation", "has", "(I)Z"⟩, prog_5_method_5_code, 2, some .boolean)
def zm_Coll_text : zD := (3, ⟨"StopPress$Collation", "text", "(I)LStopPress$Text;"⟩, prog_5_method_6_code, 2, some (.object "StopPress$Text"))
def zm_P_drop : zD := (9, ⟨"StopPress", "drop", "()I"⟩, prog_1_method_6_code, 1, some .int)
def zm_Coll_removeLast : zD := (3, ⟨"StopPress$Collation", "removeLast", "()V"⟩, prog_5_method_8_code, 1, none)
def zm_P_band : zD := (9, ⟨"StopPress", "band", "(I)I"⟩, prog_1_method_7_code, 3, some .int)
def zm_Coll_reach : zD := (3, ⟨"StopPress$Collation", "reach", "()I"⟩, prog_5_method_3_code, 1, some .int)
def zm_Coll_setReach : zD := (3, ⟨"StopPress$Collation", "setReach", "(I)V"⟩, prog_5_method_9_code, 3, none)
def zm_P_of : zD := (9, ⟨"StopPress", "of", "(II)I"⟩, prog_1_method_8_code, 3, some .int)
def zm_Stemma_build : zD := (7, ⟨"StopPress$Stemma", "build", "(LStopPress$Collation;)V"⟩, prog_9_method_2_code, 4, none)
def zm_Coll_changes : zD := (3, ⟨"StopPress$Collation", "changes", "()I"⟩, prog_5_method_4_code, 1, some .int)
def zm_Coll_best : zD := (3, ⟨"StopPress$Collation", "best", "(II)LStopPress$Alignment;"⟩, prog_5_method_10_code, 5, some (.object "StopPress$Alignment"))
def zm_Alignment_isKnown : zD := (1, ⟨"StopPress$Alignment", "isKnown", "()Z"⟩, prog_3_method_2_code, 1, some .boolean)
def zm_Aligner_align : zD := (0, ⟨"StopPress$Aligner", "align", "(LStopPress$Text;LStopPress$Text;ILStopPress$Alignment;)V"⟩, prog_2_method_2_code, 6, none)
def zm_Math_abs : zD := (13, ⟨"java/lang/Math", "abs", "(I)I"⟩, prog_14_method_59_code, 1, some .int)
def zm_Alignment_begin : zD := (1, ⟨"StopPress$Alignment", "begin", "(Z)V"⟩, prog_3_method_5_code, 3, none)
def zm_Aligner_fill : zD := (0, ⟨"StopPress$Aligner", "fill", "(LStopPress$Text;LStopPress$Text;I)V"⟩, prog_2_method_3_code, 13, none)
def zm_Aligner_kindOfPair : zD := (0, ⟨"StopPress$Aligner", "kindOfPair", "(II)I"⟩, prog_2_method_5_code, 5, some .int)
def zm_Math_min : zD := (13, ⟨"java/lang/Math", "min", "(II)I"⟩, prog_14_method_69_code, 2, some .int)
def zm_Aligner_trace : zD := (0, ⟨"StopPress$Aligner", "trace", "(LStopPress$Text;LStopPress$Text;LStopPress$Alignment;)V"⟩, prog_2_method_4_code, 11, none)
def zm_Alignment_add : zD := (1, ⟨"StopPress$Alignment", "add", "(I)V"⟩, prog_3_method_6_code, 3, none)
def zm_Alignment_isFound : zD := (1, ⟨"StopPress$Alignment", "isFound", "()Z"⟩, prog_3_method_3_code, 1, some .boolean)
def zm_Stemma_read : zD := (7, ⟨"StopPress$Stemma", "read", "(ILStopPress$Text;LStopPress$Alignment;)V"⟩, prog_9_method_3_code, 8, none)
def zm_Alignment_length : zD := (1, ⟨"StopPress$Alignment", "length", "()I"⟩, prog_3_method_8_code, 1, some .int)
def zm_Alignment_stepAt : zD := (1, ⟨"StopPress$Alignment", "stepAt", "(I)I"⟩, prog_3_method_10_code, 2, some .int)
def zm_Alignment_hasStep : zD := (1, ⟨"StopPress$Alignment", "hasStep", "(I)Z"⟩, prog_3_method_9_code, 2, some .boolean)
def zm_Stemma_group : zD := (7, ⟨"StopPress$Stemma", "group", "(I)V"⟩, prog_9_method_4_code, 3, none)
def zm_Stemma_differences : zD := (7, ⟨"StopPress$Stemma", "differences", "(II)I"⟩, prog_9_method_14_code, 5, some .int)
def zm_Stemma_readingAt : zD := (7, ⟨"StopPress$Stemma", "readingAt", "(II)I"⟩, prog_9_method_13_code, 4, some .int)
def zm_Stemma_connect : zD := (7, ⟨"StopPress$Stemma", "connect", "()V"⟩, prog_9_method_5_code, 2, none)
def zm_Stemma_joinNearest : zD := (7, ⟨"StopPress$Stemma", "joinNearest", "(I)V"⟩, prog_9_method_6_code, 7, none)
def zm_Stemma_distance : zD := (7, ⟨"StopPress$Stemma", "distance", "(II)I"⟩, prog_9_method_15_code, 3, some .int)
def zm_Stemma_has : zD := (7, ⟨"StopPress$Stemma", "has", "(I)Z"⟩, prog_9_method_10_code, 2, some .boolean)
def zm_Stemma_findReverted : zD := (7, ⟨"StopPress$Stemma", "findReverted", "()V"⟩, prog_9_method_7_code, 3, none)
def zm_Stemma_goesBack : zD := (7, ⟨"StopPress$Stemma", "goesBack", "(II)Z"⟩, prog_9_method_8_code, 7, some .boolean)
def zm_Stemma_readingOfState : zD := (7, ⟨"StopPress$Stemma", "readingOfState", "(II)I"⟩, prog_9_method_16_code, 3, some .int)
def zm_Stemma_parentOf : zD := (7, ⟨"StopPress$Stemma", "parentOf", "(I)I"⟩, prog_9_method_17_code, 2, some .int)
def zm_P_describeCopy : zD := (9, ⟨"StopPress", "describeCopy", "(II)I"⟩, prog_1_method_30_code, 3, some .int)
def zm_Stemma_isExcluded : zD := (7, ⟨"StopPress$Stemma", "isExcluded", "(I)Z"⟩, prog_9_method_11_code, 2, some .boolean)
def zm_Stemma_stateOfCopy : zD := (7, ⟨"StopPress$Stemma", "stateOfCopy", "(I)I"⟩, prog_9_method_12_code, 2, some .int)
def zm_Alignment_tally : zD := (1, ⟨"StopPress$Alignment", "tally", "(I)I"⟩, prog_3_method_7_code, 2, some .int)
def zm_P_sign : zD := (9, ⟨"StopPress", "sign", "(II)I"⟩, prog_1_method_9_code, 3, some .int)
def zm_Text_has : zD := (8, ⟨"StopPress$Text", "has", "(I)Z"⟩, prog_10_method_3_code, 2, some .boolean)
def zm_P_collate : zD := (9, ⟨"StopPress", "collate", "(III)I"⟩, prog_1_method_10_code, 4, some .int)
def zm_P_step : zD := (9, ⟨"StopPress", "step", "(III)I"⟩, prog_1_method_11_code, 5, some .int)
def zm_P_reading : zD := (9, ⟨"StopPress", "reading", "(II)I"⟩, prog_1_method_12_code, 3, some .int)
def zm_P_states : zD := (9, ⟨"StopPress", "states", "(I)I"⟩, prog_1_method_13_code, 2, some .int)
def zm_Stemma_describeAll : zD := (7, ⟨"StopPress$Stemma", "describeAll", "(I)I"⟩, prog_9_method_21_code, 2, some .int)
def zm_Stemma_length : zD := (7, ⟨"StopPress$Stemma", "length", "()I"⟩, prog_9_method_22_code, 3, some .int)
def zm_Stemma_variedPlaces : zD := (7, ⟨"StopPress$Stemma", "variedPlaces", "()I"⟩, prog_9_method_23_code, 5, some .int)
def zm_Stemma_reversions : zD := (7, ⟨"StopPress$Stemma", "reversions", "()I"⟩, prog_9_method_24_code, 3, some .int)
def zm_Int_bitCount : zD := (12, ⟨"java/lang/Integer", "bitCount", "(I)I"⟩, prog_13_method_49_code, 1, some .int)
def zm_Stemma_leaves : zD := (7, ⟨"StopPress$Stemma", "leaves", "()I"⟩, prog_9_method_25_code, 3, some .int)
def zm_P_state : zD := (9, ⟨"StopPress", "state", "(II)I"⟩, prog_1_method_14_code, 3, some .int)
def zm_Stemma_describe : zD := (7, ⟨"StopPress$Stemma", "describe", "(II)I"⟩, prog_9_method_20_code, 3, some .int)
def zm_Stemma_ancestors : zD := (7, ⟨"StopPress$Stemma", "ancestors", "(I)I"⟩, prog_9_method_19_code, 5, some .int)
def zm_P_far : zD := (9, ⟨"StopPress", "far", "(II)I"⟩, prog_1_method_15_code, 3, some .int)
def zm_P_turned : zD := (9, ⟨"StopPress", "turned", "(II)I"⟩, prog_1_method_16_code, 3, some .int)
def zm_Stemma_isReverted : zD := (7, ⟨"StopPress$Stemma", "isReverted", "(II)Z"⟩, prog_9_method_18_code, 3, some .boolean)
def zm_P_see : zD := (9, ⟨"StopPress", "see", "(IIII)I"⟩, prog_1_method_17_code, 6, some .int)
def zm_Sight_clash : zD := (6, ⟨"StopPress$Sightings", "clash", "(III)Z"⟩, prog_8_method_6_code, 5, some .boolean)
def zm_Sight_size : zD := (6, ⟨"StopPress$Sightings", "size", "()I"⟩, prog_8_method_2_code, 1, some .int)
def zm_Sight_add : zD := (6, ⟨"StopPress$Sightings", "add", "(IIII)V"⟩, prog_8_method_7_code, 5, none)
def zm_P_unsee : zD := (9, ⟨"StopPress", "unsee", "(I)I"⟩, prog_1_method_18_code, 2, some .int)
def zm_Sight_has : zD := (6, ⟨"StopPress$Sightings", "has", "(I)Z"⟩, prog_8_method_4_code, 2, some .boolean)
def zm_Sight_remove : zD := (6, ⟨"StopPress$Sightings", "remove", "(I)V"⟩, prog_8_method_8_code, 4, none)
def zm_P_seen : zD := (9, ⟨"StopPress", "seen", "(II)I"⟩, prog_1_method_19_code, 3, some .int)
def zm_Sight_get : zD := (6, ⟨"StopPress$Sightings", "get", "(II)I"⟩, prog_8_method_5_code, 3, some .int)
def zm_P_forme : zD := (9, ⟨"StopPress", "forme", "(II)I"⟩, prog_1_method_20_code, 3, some .int)
def zm_P_describeForme : zD := (9, ⟨"StopPress", "describeForme", "(II)I"⟩, prog_1_method_31_code, 3, some .int)
def zm_Chrono_build : zD := (2, ⟨"StopPress$Chronology", "build", "(LStopPress$Sightings;)V"⟩, prog_4_method_2_code, 3, none)
def zm_Sight_changes : zD := (6, ⟨"StopPress$Sightings", "changes", "()I"⟩, prog_8_method_3_code, 1, some .int)
def zm_Chrono_enter : zD := (2, ⟨"StopPress$Chronology", "enter", "(LStopPress$Sightings;I)V"⟩, prog_4_method_3_code, 5, none)
def zm_Sight_isLessWorn : zD := (6, ⟨"StopPress$Sightings", "isLessWorn", "(II)Z"⟩, prog_8_method_9_code, 3, some .boolean)
def zm_Chrono_findCompanions : zD := (2, ⟨"StopPress$Chronology", "findCompanions", "(I)I"⟩, prog_4_method_4_code, 4, some .int)
def zm_Chrono_countOrders : zD := (2, ⟨"StopPress$Chronology", "countOrders", "()V"⟩, prog_4_method_5_code, 4, none)
def zm_Chrono_findFirst : zD := (2, ⟨"StopPress$Chronology", "findFirst", "()V"⟩, prog_4_method_6_code, 4, none)
def zm_Chrono_firstFree : zD := (2, ⟨"StopPress$Chronology", "firstFree", "(I)I"⟩, prog_4_method_7_code, 4, some .int)
def zm_Int_numberOfTrailingZeros : zD := (12, ⟨"java/lang/Integer", "numberOfTrailingZeros", "(I)I"⟩, prog_13_method_48_code, 2, some .int)
def zm_Chrono_typesOn : zD := (2, ⟨"StopPress$Chronology", "typesOn", "(I)I"⟩, prog_4_method_11_code, 2, some .int)
def zm_Chrono_aheadOf : zD := (2, ⟨"StopPress$Chronology", "aheadOf", "(I)I"⟩, prog_4_method_12_code, 2, some .int)
def zm_Chrono_companionsOf : zD := (2, ⟨"StopPress$Chronology", "companionsOf", "(I)I"⟩, prog_4_method_14_code, 2, some .int)
def zm_Chrono_placeOf : zD := (2, ⟨"StopPress$Chronology", "placeOf", "(I)I"⟩, prog_4_method_18_code, 4, some .int)
def zm_Chrono_orderLength : zD := (2, ⟨"StopPress$Chronology", "orderLength", "()I"⟩, prog_4_method_15_code, 1, some .int)
def zm_Presses_build : zD := (5, ⟨"StopPress$Presses", "build", "(LStopPress$Chronology;)V"⟩, prog_7_method_4_code, 4, none)
def zm_Chrono_builtFor : zD := (2, ⟨"StopPress$Chronology", "builtFor", "()I"⟩, prog_4_method_8_code, 1, some .int)
def zm_Presses_assign : zD := (5, ⟨"StopPress$Presses", "assign", "(LStopPress$Chronology;[III)Z"⟩, prog_7_method_5_code, 5, some .boolean)
def zm_Presses_fits : zD := (5, ⟨"StopPress$Presses", "fits", "(LStopPress$Chronology;[II)Z"⟩, prog_7_method_6_code, 5, some .boolean)
def zm_Presses_pressOf : zD := (5, ⟨"StopPress$Presses", "pressOf", "(I)I"⟩, prog_7_method_3_code, 2, some .int)
def zm_P_formes : zD := (9, ⟨"StopPress", "formes", "(I)I"⟩, prog_1_method_21_code, 2, some .int)
def zm_P_describeFormes : zD := (9, ⟨"StopPress", "describeFormes", "(I)I"⟩, prog_1_method_32_code, 2, some .int)
def zm_Chrono_seenSet : zD := (2, ⟨"StopPress$Chronology", "seenSet", "()I"⟩, prog_4_method_9_code, 1, some .int)
def zm_Chrono_orders : zD := (2, ⟨"StopPress$Chronology", "orders", "()I"⟩, prog_4_method_10_code, 1, some .int)
def zm_Fault_build : zD := (4, ⟨"StopPress$Fault", "build", "(LStopPress$Sightings;)V"⟩, prog_6_method_3_code, 2, none)
def zm_Fault_findPairs : zD := (4, ⟨"StopPress$Fault", "findPairs", "(LStopPress$Sightings;)V"⟩, prog_6_method_4_code, 4, none)
def zm_Fault_search : zD := (4, ⟨"StopPress$Fault", "search", "(I)V"⟩, prog_6_method_5_code, 4, none)
def zm_Fault_hasOrderWithout : zD := (4, ⟨"StopPress$Fault", "hasOrderWithout", "(I)Z"⟩, prog_6_method_6_code, 4, some .boolean)
def zm_Fault_hasNoCycle : zD := (4, ⟨"StopPress$Fault", "hasNoCycle", "()Z"⟩, prog_6_method_7_code, 5, some .boolean)
def zm_Fault_set : zD := (4, ⟨"StopPress$Fault", "set", "()I"⟩, prog_6_method_2_code, 1, some .int)
def zm_Presses_number : zD := (5, ⟨"StopPress$Presses", "number", "()I"⟩, prog_7_method_2_code, 1, some .int)
def zm_Chrono_typeSet : zD := (2, ⟨"StopPress$Chronology", "typeSet", "()I"⟩, prog_4_method_13_code, 3, some .int)
def zm_P_order : zD := (9, ⟨"StopPress", "order", "(I)I"⟩, prog_1_method_22_code, 2, some .int)
def zm_Chrono_hasPlace : zD := (2, ⟨"StopPress$Chronology", "hasPlace", "(I)Z"⟩, prog_4_method_16_code, 2, some .boolean)
def zm_Chrono_formeAt : zD := (2, ⟨"StopPress$Chronology", "formeAt", "(I)I"⟩, prog_4_method_17_code, 2, some .int)
def zm_P_count : zD := (9, ⟨"StopPress", "count", "(I)I"⟩, prog_1_method_23_code, 2, some .int)
def zm_P_digest : zD := (9, ⟨"StopPress", "digest", "()J"⟩, prog_1_method_24_code, 4, some .long)
def zm_P_hashCopies : zD := (9, ⟨"StopPress", "hashCopies", "(J)J"⟩, prog_1_method_25_code, 9, some .long)
def zm_P_hashPairs : zD := (9, ⟨"StopPress", "hashPairs", "(J)J"⟩, prog_1_method_26_code, 9, some .long)
def zm_P_hashStates : zD := (9, ⟨"StopPress", "hashStates", "(J)J"⟩, prog_1_method_27_code, 7, some .long)
def zm_Stemma_size : zD := (7, ⟨"StopPress$Stemma", "size", "()I"⟩, prog_9_method_9_code, 1, some .int)
def zm_P_hashSightings : zD := (9, ⟨"StopPress", "hashSightings", "(J)J"⟩, prog_1_method_28_code, 7, some .long)
def zm_P_hashFormes : zD := (9, ⟨"StopPress", "hashFormes", "(J)J"⟩, prog_1_method_29_code, 7, some .long)
def zm_M_init : zD := (10, ⟨"StopPressModel", "<init>", "()V"⟩, prog_12_method_1_code, 1, none)
def zm_M_letter : zD := (10, ⟨"StopPressModel", "letter", "(I)I"⟩, prog_12_method_4_code, 2, some .int)
def zm_M_within : zD := (10, ⟨"StopPressModel", "within", "(III)Z"⟩, prog_12_method_3_code, 3, some .boolean)
def zm_M_blank : zD := (10, ⟨"StopPressModel", "blank", "()I"⟩, prog_12_method_5_code, 2, some .int)
def zm_M_copy : zD := (10, ⟨"StopPressModel", "copy", "()I"⟩, prog_12_method_8_code, 1, some .int)
def zm_M_isCopyPage : zD := (10, ⟨"StopPressModel", "isCopyPage", "()Z"⟩, prog_12_method_6_code, 3, some .boolean)
def zm_M_readInto : zD := (10, ⟨"StopPressModel", "readInto", "(I)V"⟩, prog_12_method_7_code, 3, none)
def zm_M_correct : zD := (10, ⟨"StopPressModel", "correct", "(I)I"⟩, prog_12_method_10_code, 3, some .int)
def zm_M_isCopy : zD := (10, ⟨"StopPressModel", "isCopy", "(I)Z"⟩, prog_12_method_9_code, 2, some .boolean)
def zm_M_drop : zD := (10, ⟨"StopPressModel", "drop", "()I"⟩, prog_12_method_11_code, 1, some .int)
def zm_M_band : zD := (10, ⟨"StopPressModel", "band", "(I)I"⟩, prog_12_method_12_code, 3, some .int)
def zm_M_collate : zD := (10, ⟨"StopPressModel", "collate", "(III)I"⟩, prog_12_method_22_code, 4, some .int)
def zm_M_collateNow : zD := (10, ⟨"StopPressModel", "collateNow", "(III)I"⟩, prog_12_method_21_code, 4, some .int)
def zm_M_layCollation : zD := (10, ⟨"StopPressModel", "layCollation", "(II)V"⟩, prog_12_method_19_code, 6, none)
def zm_M_leastCost : zD := (10, ⟨"StopPressModel", "leastCost", "(II)I"⟩, prog_12_method_17_code, 4, some .int)
def zm_M_costBy : zD := (10, ⟨"StopPressModel", "costBy", "(III)I"⟩, prog_12_method_16_code, 5, some .int)
def zm_M_letterAt : zD := (10, ⟨"StopPressModel", "letterAt", "(II)I"⟩, prog_12_method_15_code, 3, some .int)
def zm_M_pairCost : zD := (10, ⟨"StopPressModel", "pairCost", "(II)I"⟩, prog_12_method_14_code, 2, some .int)
def zm_M_family : zD := (10, ⟨"StopPressModel", "family", "(I)I"⟩, prog_12_method_13_code, 1, some .int)
def zm_M_isCollated : zD := (10, ⟨"StopPressModel", "isCollated", "()Z"⟩, prog_12_method_18_code, 1, some .boolean)
def zm_M_stepsOf : zD := (10, ⟨"StopPressModel", "stepsOf", "(I)I"⟩, prog_12_method_20_code, 8, some .int)
def zm_M_step : zD := (10, ⟨"StopPressModel", "step", "(III)I"⟩, prog_12_method_24_code, 4, some .int)
def zm_M_stepNow : zD := (10, ⟨"StopPressModel", "stepNow", "(III)I"⟩, prog_12_method_23_code, 4, some .int)
def zm_M_of : zD := (10, ⟨"StopPressModel", "of", "(II)I"⟩, prog_12_method_38_code, 3, some .int)
def zm_M_copyNow : zD := (10, ⟨"StopPressModel", "copyNow", "(II)I"⟩, prog_12_method_37_code, 3, some .int)
def zm_M_layStates : zD := (10, ⟨"StopPressModel", "layStates", "()V"⟩, prog_12_method_29_code, 3, none)
def zm_M_layReading : zD := (10, ⟨"StopPressModel", "layReading", "(I)V"⟩, prog_12_method_25_code, 5, none)
def zm_M_unlike : zD := (10, ⟨"StopPressModel", "unlike", "(II)I"⟩, prog_12_method_27_code, 5, some .int)
def zm_M_places : zD := (10, ⟨"StopPressModel", "places", "()I"⟩, prog_12_method_26_code, 1, some .int)
def zm_M_layTree : zD := (10, ⟨"StopPressModel", "layTree", "()V"⟩, prog_12_method_30_code, 8, none)
def zm_M_farNow : zD := (10, ⟨"StopPressModel", "farNow", "(II)I"⟩, prog_12_method_28_code, 3, some .int)
def zm_M_costOf : zD := (10, ⟨"StopPressModel", "costOf", "(I)I"⟩, prog_12_method_35_code, 2, some .int)
def zm_M_moreOf : zD := (10, ⟨"StopPressModel", "moreOf", "(I)I"⟩, prog_12_method_34_code, 2, some .int)
def zm_M_otherReadings : zD := (10, ⟨"StopPressModel", "otherReadings", "(I)I"⟩, prog_12_method_36_code, 4, some .int)
def zm_M_sign : zD := (10, ⟨"StopPressModel", "sign", "(II)I"⟩, prog_12_method_39_code, 3, some .int)
def zm_M_reading : zD := (10, ⟨"StopPressModel", "reading", "(II)I"⟩, prog_12_method_40_code, 3, some .int)
def zm_M_states : zD := (10, ⟨"StopPressModel", "states", "(I)I"⟩, prog_12_method_47_code, 2, some .int)
def zm_M_statesNow : zD := (10, ⟨"StopPressModel", "statesNow", "(I)I"⟩, prog_12_method_46_code, 2, some .int)
def zm_M_outMany : zD := (10, ⟨"StopPressModel", "outMany", "()I"⟩, prog_12_method_41_code, 3, some .int)
def zm_M_changes : zD := (10, ⟨"StopPressModel", "changes", "()I"⟩, prog_12_method_42_code, 3, some .int)
def zm_M_unlikePlaces : zD := (10, ⟨"StopPressModel", "unlikePlaces", "()I"⟩, prog_12_method_43_code, 5, some .int)
def zm_M_readingOf : zD := (10, ⟨"StopPressModel", "readingOf", "(II)I"⟩, prog_12_method_31_code, 3, some .int)
def zm_M_turnedAll : zD := (10, ⟨"StopPressModel", "turnedAll", "()I"⟩, prog_12_method_44_code, 3, some .int)
def zm_M_turnedMany : zD := (10, ⟨"StopPressModel", "turnedMany", "(I)I"⟩, prog_12_method_33_code, 4, some .int)
def zm_M_isTurned : zD := (10, ⟨"StopPressModel", "isTurned", "(II)Z"⟩, prog_12_method_32_code, 4, some .boolean)
def zm_M_childless : zD := (10, ⟨"StopPressModel", "childless", "()I"⟩, prog_12_method_45_code, 5, some .int)
def zm_M_state : zD := (10, ⟨"StopPressModel", "state", "(II)I"⟩, prog_12_method_52_code, 3, some .int)
def zm_M_stateNow : zD := (10, ⟨"StopPressModel", "stateNow", "(II)I"⟩, prog_12_method_51_code, 3, some .int)
def zm_M_tellState : zD := (10, ⟨"StopPressModel", "tellState", "(II)I"⟩, prog_12_method_50_code, 3, some .int)
def zm_M_copiesIn : zD := (10, ⟨"StopPressModel", "copiesIn", "(I)I"⟩, prog_12_method_48_code, 4, some .int)
def zm_M_above : zD := (10, ⟨"StopPressModel", "above", "(I)I"⟩, prog_12_method_49_code, 4, some .int)
def zm_M_far : zD := (10, ⟨"StopPressModel", "far", "(II)I"⟩, prog_12_method_53_code, 3, some .int)
def zm_M_turned : zD := (10, ⟨"StopPressModel", "turned", "(II)I"⟩, prog_12_method_54_code, 4, some .int)
def zm_M_see : zD := (10, ⟨"StopPressModel", "see", "(IIII)I"⟩, prog_12_method_56_code, 5, some .int)
def zm_M_isTaken : zD := (10, ⟨"StopPressModel", "isTaken", "(III)Z"⟩, prog_12_method_55_code, 6, some .boolean)
def zm_M_unsee : zD := (10, ⟨"StopPressModel", "unsee", "(I)I"⟩, prog_12_method_58_code, 3, some .int)
def zm_M_isSighting : zD := (10, ⟨"StopPressModel", "isSighting", "(I)Z"⟩, prog_12_method_57_code, 2, some .boolean)
def zm_M_seen : zD := (10, ⟨"StopPressModel", "seen", "(II)I"⟩, prog_12_method_60_code, 3, some .int)
def zm_M_sightingNow : zD := (10, ⟨"StopPressModel", "sightingNow", "(II)I"⟩, prog_12_method_59_code, 3, some .int)
def zm_M_order : zD := (10, ⟨"StopPressModel", "order", "(I)I"⟩, prog_12_method_70_code, 3, some .int)
def zm_M_orderAt : zD := (10, ⟨"StopPressModel", "orderAt", "(I)I"⟩, prog_12_method_69_code, 5, some .int)
def zm_M_allSightings : zD := (10, ⟨"StopPressModel", "allSightings", "()I"⟩, prog_12_method_63_code, 1, some .int)
def zm_M_orders : zD := (10, ⟨"StopPressModel", "orders", "(I)I"⟩, prog_12_method_66_code, 2, some .int)
def zm_M_layAhead : zD := (10, ⟨"StopPressModel", "layAhead", "(I)V"⟩, prog_12_method_62_code, 5, none)
def zm_M_has : zD := (10, ⟨"StopPressModel", "has", "(II)Z"⟩, prog_12_method_61_code, 2, some .boolean)
def zm_M_layWays : zD := (10, ⟨"StopPressModel", "layWays", "()V"⟩, prog_12_method_65_code, 3, none)
def zm_M_canBeFirst : zD := (10, ⟨"StopPressModel", "canBeFirst", "(II)Z"⟩, prog_12_method_64_code, 5, some .boolean)
def zm_M_many : zD := (10, ⟨"StopPressModel", "many", "(I)I"⟩, prog_12_method_67_code, 3, some .int)
def zm_M_forme : zD := (10, ⟨"StopPressModel", "forme", "(II)I"⟩, prog_12_method_82_code, 3, some .int)
def zm_M_formeNow : zD := (10, ⟨"StopPressModel", "formeNow", "(II)I"⟩, prog_12_method_81_code, 3, some .int)
def zm_M_onForme : zD := (10, ⟨"StopPressModel", "onForme", "(I)I"⟩, prog_12_method_80_code, 4, some .int)
def zm_M_togetherWith : zD := (10, ⟨"StopPressModel", "togetherWith", "(I)I"⟩, prog_12_method_73_code, 5, some .int)
def zm_M_typesOn : zD := (10, ⟨"StopPressModel", "typesOn", "(I)I"⟩, prog_12_method_72_code, 4, some .int)
def zm_M_placeOf : zD := (10, ⟨"StopPressModel", "placeOf", "(I)I"⟩, prog_12_method_71_code, 3, some .int)
def zm_M_pressNow : zD := (10, ⟨"StopPressModel", "pressNow", "(I)I"⟩, prog_12_method_79_code, 2, some .int)
def zm_M_layPresses : zD := (10, ⟨"StopPressModel", "layPresses", "()V"⟩, prog_12_method_78_code, 2, none)
def zm_M_findsRoom : zD := (10, ⟨"StopPressModel", "findsRoom", "(I)Z"⟩, prog_12_method_75_code, 4, some .boolean)
def zm_M_goesOn : zD := (10, ⟨"StopPressModel", "goesOn", "(I)I"⟩, prog_12_method_76_code, 2, some .int)
def zm_M_goesBack : zD := (10, ⟨"StopPressModel", "goesBack", "(I)I"⟩, prog_12_method_77_code, 2, some .int)
def zm_M_mayBeOn : zD := (10, ⟨"StopPressModel", "mayBeOn", "(II)Z"⟩, prog_12_method_74_code, 5, some .boolean)
def zm_M_formes : zD := (10, ⟨"StopPressModel", "formes", "(I)I"⟩, prog_12_method_86_code, 2, some .int)
def zm_M_formesNow : zD := (10, ⟨"StopPressModel", "formesNow", "(I)I"⟩, prog_12_method_85_code, 3, some .int)
def zm_M_faultNow : zD := (10, ⟨"StopPressModel", "faultNow", "()I"⟩, prog_12_method_68_code, 4, some .int)
def zm_M_pressesNow : zD := (10, ⟨"StopPressModel", "pressesNow", "()I"⟩, prog_12_method_83_code, 1, some .int)
def zm_M_typesSeen : zD := (10, ⟨"StopPressModel", "typesSeen", "()I"⟩, prog_12_method_84_code, 3, some .int)
def zm_M_count : zD := (10, ⟨"StopPressModel", "count", "(I)I"⟩, prog_12_method_88_code, 2, some .int)
def zm_M_howMany : zD := (10, ⟨"StopPressModel", "howMany", "(I)I"⟩, prog_12_method_87_code, 2, some .int)
def zm_M_digest : zD := (10, ⟨"StopPressModel", "digest", "()J"⟩, prog_12_method_93_code, 2, some .long)
def zm_M_mixCopies : zD := (10, ⟨"StopPressModel", "mixCopies", "()V"⟩, prog_12_method_90_code, 4, none)
def zm_M_mix : zD := (10, ⟨"StopPressModel", "mix", "(J)V"⟩, prog_12_method_89_code, 3, none)
def zm_M_mixStates : zD := (10, ⟨"StopPressModel", "mixStates", "()V"⟩, prog_12_method_91_code, 3, none)
def zm_M_mixFormes : zD := (10, ⟨"StopPressModel", "mixFormes", "()V"⟩, prog_12_method_92_code, 2, none)
def zm_law : zD := (11, x, code, maxLocals, ret)
/-- calls, by the caller's class: (entry, kind, parameters, callee); kind 0 virtual, 1 static, 2 a constructor, 3 a constructor of a nest mate -/
def zCT0 : List (Nat × Nat × Nat × zD) := [(15, 0, 0, zm_Text_size), (27, 0, 1, zm_Alignment_begin), (33, 0, 3, zm_Aligner_fill), (37, 0, 3, zm_Aligner_trace), (42, 0, 1, zm_Text_at), (45, 1, 2, zm_Aligner_kindOfPair), (55, 0, 1, zm_Alignment_add)]
def zCT1 : List (Nat × Nat × Nat × zD) := [(31, 0, 0, zm_Alignment_length), (35, 0, 1, zm_Alignment_hasStep)]
def zCT2 : List (Nat × Nat × Nat × zD) := [(37, 0, 0, zm_Sight_changes), (43, 0, 0, zm_Sight_size), (46, 0, 2, zm_Chrono_enter), (50, 0, 1, zm_Chrono_findCompanions), (54, 0, 0, zm_Chrono_countOrders), (57, 0, 0, zm_Chrono_findFirst), (60, 0, 2, zm_Sight_get), (64, 0, 2, zm_Sight_isLessWorn), (68, 0, 1, zm_Chrono_firstFree), (71, 1, 1, zm_Int_numberOfTrailingZeros), (76, 1, 1, zm_Int_bitCount), (79, 0, 0, zm_Chrono_orderLength), (82, 0, 1, zm_Chrono_hasPlace)]
def zCT3 : List (Nat × Nat × Nat × zD) := [(25, 3, 0, zm_Aligner_init), (40, 3, 0, zm_Text_init), (41, 3, 0, zm_Alignment_init), (42, 0, 1, zm_Coll_has), (52, 0, 1, zm_Text_takeFrom), (56, 0, 0, zm_Alignment_forget), (59, 0, 0, zm_Text_clear), (62, 0, 0, zm_Alignment_isKnown), (66, 0, 1, zm_Coll_text), (70, 0, 4, zm_Aligner_align)]
def zCT4 : List (Nat × Nat × Nat × zD) := [(34, 0, 0, zm_Sight_changes), (40, 0, 1, zm_Fault_findPairs), (44, 0, 0, zm_Sight_size), (47, 0, 1, zm_Fault_search), (51, 0, 2, zm_Sight_isLessWorn), (55, 0, 2, zm_Sight_get), (59, 1, 1, zm_Int_bitCount), (65, 0, 1, zm_Fault_hasOrderWithout), (69, 0, 0, zm_Fault_hasNoCycle)]
def zCT5 : List (Nat × Nat × Nat × zD) := [(22, 0, 0, zm_Chrono_builtFor), (27, 1, 4, zm_Presses_assign), (31, 0, 1, zm_Chrono_typesOn), (35, 1, 3, zm_Presses_fits), (39, 0, 1, zm_Chrono_companionsOf)]
def zCT6 : List (Nat × Nat × Nat × zD) := [(23, 0, 1, zm_Sight_has)]
def zCT7 : List (Nat × Nat × Nat × zD) := [(51, 0, 0, zm_Coll_changes), (57, 0, 0, zm_Coll_size), (59, 0, 1, zm_Coll_text), (63, 0, 0, zm_Text_size), (66, 0, 2, zm_Coll_best), (70, 0, 0, zm_Alignment_isFound), (76, 0, 3, zm_Stemma_read), (80, 0, 1, zm_Stemma_group), (84, 0, 0, zm_Stemma_connect), (87, 0, 0, zm_Stemma_findReverted), (90, 0, 0, zm_Alignment_length), (93, 0, 1, zm_Alignment_stepAt), (97, 0, 1, zm_Text_at), (100, 0, 2, zm_Stemma_differences), (104, 0, 1, zm_Stemma_joinNearest), (107, 0, 2, zm_Stemma_distance), (110, 0, 2, zm_Stemma_goesBack), (114, 0, 2, zm_Stemma_readingOfState), (117, 0, 1, zm_Stemma_parentOf), (120, 0, 1, zm_Stemma_stateOfCopy), (122, 0, 2, zm_Stemma_readingAt), (125, 0, 1, zm_Stemma_has), (129, 0, 1, zm_Stemma_ancestors), (132, 1, 1, zm_Int_bitCount), (137, 0, 0, zm_Stemma_length), (138, 0, 0, zm_Stemma_variedPlaces), (141, 0, 0, zm_Stemma_reversions), (144, 0, 0, zm_Stemma_leaves)]
def zCT8 : List (Nat × Nat × Nat × zD) := [(19, 0, 0, zm_Text_size), (23, 0, 1, zm_Text_at), (27, 0, 1, zm_Text_append)]
def zCT9 : List (Nat × Nat × Nat × zD) := [(9, 3, 0, zm_Text_init), (18, 2, 0, zm_Coll_init), (25, 3, 0, zm_Stemma_init), (32, 3, 0, zm_Sight_init), (39, 3, 0, zm_Chrono_init), (46, 3, 0, zm_Fault_init), (53, 3, 0, zm_Presses_init), (65, 0, 0, zm_Text_size), (69, 0, 1, zm_Text_append), (73, 0, 0, zm_Text_clear), (76, 0, 0, zm_Text_isWord), (80, 0, 0, zm_Coll_size), (81, 0, 2, zm_Coll_put), (85, 0, 1, zm_Coll_has), (89, 0, 1, zm_Coll_text), (93, 0, 0, zm_Coll_removeLast), (96, 0, 0, zm_Coll_reach), (99, 0, 1, zm_Coll_setReach), (102, 0, 1, zm_Stemma_build), (106, 0, 2, zm_P_describeCopy), (110, 0, 1, zm_Text_has), (111, 0, 1, zm_Text_at), (115, 0, 2, zm_Coll_best), (119, 0, 1, zm_Alignment_tally), (124, 0, 1, zm_Alignment_hasStep), (127, 0, 1, zm_Alignment_stepAt), (130, 0, 1, zm_Stemma_isExcluded), (133, 0, 2, zm_Stemma_readingAt), (136, 0, 1, zm_Stemma_describeAll), (139, 0, 1, zm_Stemma_has), (140, 0, 2, zm_Stemma_describe), (143, 0, 2, zm_Stemma_distance), (146, 0, 2, zm_Stemma_isReverted), (150, 0, 3, zm_Sight_clash), (154, 0, 0, zm_Sight_size), (155, 0, 4, zm_Sight_add), (159, 0, 1, zm_Sight_has), (160, 0, 1, zm_Sight_remove), (163, 0, 2, zm_Sight_get), (166, 0, 2, zm_P_describeForme), (169, 0, 1, zm_P_describeFormes), (172, 0, 1, zm_Chrono_build), (175, 0, 1, zm_Chrono_hasPlace), (178, 0, 1, zm_Chrono_formeAt), (183, 0, 1, zm_P_hashCopies), (187, 0, 1, zm_P_hashPairs), (190, 0, 1, zm_P_hashStates), (193, 0, 1, zm_P_hashSightings), (196, 0, 1, zm_P_hashFormes), (201, 0, 1, zm_P_count), (204, 0, 0, zm_Stemma_size), (205, 0, 0, zm_Chrono_orderLength), (208, 0, 1, zm_Stemma_stateOfCopy), (211, 0, 2, zm_Stemma_differences), (214, 0, 1, zm_Chrono_typesOn), (217, 1, 1, zm_Int_bitCount), (222, 0, 1, zm_Chrono_aheadOf), (225, 0, 1, zm_Chrono_companionsOf), (228, 0, 1, zm_Chrono_placeOf), (231, 0, 1, zm_Presses_build), (234, 0, 1, zm_Presses_pressOf), (237, 0, 0, zm_Chrono_seenSet), (240, 0, 0, zm_Chrono_orders), (243, 0, 1, zm_Fault_build), (244, 0, 0, zm_Fault_set), (247, 0, 0, zm_Presses_number), (250, 0, 0, zm_Chrono_typeSet)]
def zCT10 : List (Nat × Nat × Nat × zD) := [(72, 1, 3, zm_M_within), (82, 0, 0, zm_M_isCopyPage), (89, 0, 1, zm_M_readInto), (93, 0, 1, zm_M_isCopy), (97, 1, 1, zm_M_family), (108, 0, 2, zm_M_letterAt), (112, 1, 2, zm_M_pairCost), (115, 0, 3, zm_M_costBy), (119, 0, 2, zm_M_leastCost), (125, 0, 0, zm_M_isCollated), (128, 0, 2, zm_M_layCollation), (132, 0, 1, zm_M_stepsOf), (135, 0, 3, zm_M_collateNow), (138, 0, 3, zm_M_stepNow), (141, 0, 0, zm_M_places), (145, 0, 2, zm_M_unlike), (151, 0, 1, zm_M_layReading), (154, 0, 0, zm_M_layTree), (157, 0, 2, zm_M_farNow), (160, 0, 2, zm_M_readingOf), (163, 0, 2, zm_M_isTurned), (167, 0, 0, zm_M_layStates), (170, 0, 1, zm_M_costOf), (173, 0, 1, zm_M_moreOf), (176, 0, 1, zm_M_otherReadings), (179, 0, 2, zm_M_copyNow), (182, 0, 1, zm_M_turnedMany), (185, 0, 0, zm_M_outMany), (188, 0, 0, zm_M_changes), (191, 0, 0, zm_M_unlikePlaces), (194, 0, 0, zm_M_turnedAll), (197, 0, 0, zm_M_childless), (200, 0, 1, zm_M_statesNow), (203, 0, 1, zm_M_copiesIn), (206, 0, 1, zm_M_above), (209, 0, 2, zm_M_tellState), (212, 0, 2, zm_M_stateNow), (218, 0, 3, zm_M_isTaken), (221, 0, 1, zm_M_isSighting), (227, 0, 2, zm_M_sightingNow), (233, 1, 2, zm_M_has), (236, 0, 2, zm_M_canBeFirst), (239, 0, 1, zm_M_layAhead), (242, 0, 0, zm_M_layWays), (245, 0, 0, zm_M_allSightings), (248, 1, 1, zm_M_many), (251, 0, 1, zm_M_orders), (254, 0, 1, zm_M_orderAt), (257, 0, 1, zm_M_typesOn), (260, 0, 1, zm_M_goesOn), (263, 0, 1, zm_M_goesBack), (266, 0, 2, zm_M_mayBeOn), (269, 0, 1, zm_M_togetherWith), (275, 0, 1, zm_M_findsRoom), (278, 0, 0, zm_M_layPresses), (281, 0, 1, zm_M_onForme), (284, 0, 1, zm_M_placeOf), (287, 0, 1, zm_M_pressNow), (290, 0, 2, zm_M_formeNow), (293, 0, 0, zm_M_faultNow), (296, 0, 0, zm_M_pressesNow), (299, 0, 0, zm_M_typesSeen), (302, 0, 1, zm_M_formesNow), (305, 0, 1, zm_M_howMany), (314, 0, 1, zm_M_mix), (320, 0, 0, zm_M_mixCopies), (323, 0, 0, zm_M_mixStates), (326, 0, 0, zm_M_mixFormes)]
def zCT11 : List (Nat × Nat × Nat × zD) := [(9, 2, 0, zm_P_init), (12, 2, 0, zm_M_init), (13, 0, 1, zm_P_letter), (17, 0, 1, zm_M_letter), (18, 0, 0, zm_P_blank), (22, 0, 0, zm_M_blank), (23, 0, 0, zm_P_copy), (26, 0, 0, zm_M_copy), (27, 0, 1, zm_P_correct), (30, 0, 1, zm_M_correct), (31, 0, 0, zm_P_drop), (34, 0, 0, zm_M_drop), (35, 0, 1, zm_P_band), (38, 0, 1, zm_M_band), (39, 0, 2, zm_P_of), (43, 0, 2, zm_M_of), (44, 0, 2, zm_P_sign), (47, 0, 2, zm_M_sign), (48, 0, 3, zm_P_collate), (52, 0, 3, zm_M_collate), (53, 0, 3, zm_P_step), (56, 0, 3, zm_M_step), (57, 0, 2, zm_P_reading), (60, 0, 2, zm_M_reading), (61, 0, 1, zm_P_states), (64, 0, 1, zm_M_states), (65, 0, 2, zm_P_state), (68, 0, 2, zm_M_state), (69, 0, 2, zm_P_far), (72, 0, 2, zm_M_far), (73, 0, 2, zm_P_turned), (76, 0, 2, zm_M_turned), (77, 0, 4, zm_P_see), (81, 0, 4, zm_M_see), (82, 0, 1, zm_P_unsee), (85, 0, 1, zm_M_unsee), (86, 0, 2, zm_P_seen), (89, 0, 2, zm_M_seen), (90, 0, 2, zm_P_forme), (93, 0, 2, zm_M_forme), (94, 0, 1, zm_P_formes), (97, 0, 1, zm_M_formes), (98, 0, 1, zm_P_order), (101, 0, 1, zm_M_order), (102, 0, 1, zm_P_count), (105, 0, 1, zm_M_count), (106, 0, 0, zm_P_digest), (110, 0, 0, zm_M_digest)]
def zCT12 : List (Nat × Nat × Nat × zD) := []
def zCT13 : List (Nat × Nat × Nat × zD) := []
def zCT (c : Nat) : List (Nat × Nat × Nat × zD) := match c with
  | 0 => zCT0
  | 1 => zCT1
  | 2 => zCT2
  | 3 => zCT3
  | 4 => zCT4
  | 5 => zCT5
  | 6 => zCT6
  | 7 => zCT7
  | 8 => zCT8
  | 9 => zCT9
  | 10 => zCT10
  | 11 => zCT11
  | 12 => zCT12
  | 13 => zCT13
  | _ => []
def zCall (c i : Nat) : Option (Nat × Nat × zD) := ((zCT c).find? (fun e => e.1 == i)).map (fun e => e.2)
/-- Math.max 0, min 1, abs 2 -/
def zMth (c i : Nat) : Option Nat := match c, i with
  | 0, 21 => some 2
  | 0, 52 => some 1
  | 3, 46 => some 0
  | _, _ => none
/-- Object.<init>, by the caller's class -/
def zObj (c i : Nat) : Bool := match c with
  | 0 => i == 3
  | 1 => i == 3
  | 2 => i == 3
  | 3 => i == 3
  | 4 => i == 3
  | 5 => i == 3
  | 6 => i == 3
  | 7 => i == 3
  | 8 => i == 3
  | 9 => i == 1
  | 10 => i == 1
  | _ => false
/-- fields: (entry, class, slot, type 0 int 1 boolean 2 long 3 reference, final) -/
def zFT0 : List (Nat × Nat × Nat × Nat × Bool) := [(11, 0, 0, 3, true)]
def zFT1 : List (Nat × Nat × Nat × Nat × Bool) := [(9, 1, 0, 3, true), (15, 1, 1, 3, true), (18, 1, 2, 1, false), (22, 1, 3, 1, false)]
def zFT2 : List (Nat × Nat × Nat × Nat × Bool) := [(9, 2, 0, 3, true), (15, 2, 1, 3, true), (18, 2, 2, 3, true), (21, 2, 3, 3, true), (24, 2, 4, 3, true), (27, 2, 5, 0, false), (31, 2, 6, 0, false), (34, 2, 7, 0, false)]
def zFT3 : List (Nat × Nat × Nat × Nat × Bool) := [(11, 3, 0, 3, true), (19, 3, 1, 3, true), (26, 3, 2, 3, true), (30, 3, 3, 0, false), (34, 3, 4, 0, false), (37, 3, 5, 0, false)]
def zFT4 : List (Nat × Nat × Nat × Nat × Bool) := [(11, 4, 0, 3, true), (15, 4, 1, 3, true), (18, 4, 2, 3, true), (21, 4, 3, 3, true), (24, 4, 4, 0, false), (28, 4, 5, 0, false), (31, 4, 6, 0, false)]
def zFT5 : List (Nat × Nat × Nat × Nat × Bool) := [(9, 5, 0, 3, true), (15, 5, 1, 0, false), (19, 5, 2, 0, false)]
def zFT6 : List (Nat × Nat × Nat × Nat × Bool) := [(11, 6, 0, 3, true), (16, 6, 1, 0, false), (20, 6, 2, 0, false)]
def zFT7 : List (Nat × Nat × Nat × Nat × Bool) := [(11, 7, 0, 3, true), (16, 7, 1, 3, true), (20, 7, 2, 3, true), (23, 7, 3, 3, true), (26, 7, 4, 3, true), (29, 7, 5, 3, true), (32, 7, 6, 3, true), (35, 7, 7, 3, true), (38, 7, 8, 0, false), (42, 7, 9, 0, false), (45, 7, 10, 0, false), (48, 7, 11, 0, false)]
def zFT8 : List (Nat × Nat × Nat × Nat × Bool) := [(9, 8, 0, 3, true), (15, 8, 1, 0, false)]
def zFT9 : List (Nat × Nat × Nat × Nat × Bool) := [(10, 9, 0, 3, true), (19, 9, 1, 3, true), (26, 9, 2, 3, true), (33, 9, 3, 3, true), (40, 9, 4, 3, true), (47, 9, 5, 3, true), (54, 9, 6, 3, true), (58, 9, 7, 0, false), (62, 9, 8, 0, false)]
def zFT10 : List (Nat × Nat × Nat × Nat × Bool) := [(7, 10, 1, 3, true), (13, 10, 3, 3, true), (16, 10, 4, 3, true), (19, 10, 5, 0, false), (23, 10, 8, 3, true), (26, 10, 9, 3, true), (29, 10, 10, 3, true), (32, 10, 11, 3, true), (35, 10, 13, 3, true), (38, 10, 15, 3, true), (41, 10, 18, 3, true), (44, 10, 19, 3, true), (48, 10, 21, 3, true), (51, 10, 22, 3, true), (54, 10, 23, 3, true), (57, 10, 24, 3, true), (60, 10, 26, 3, true), (63, 10, 27, 3, true), (66, 10, 29, 3, true), (69, 10, 30, 3, true), (76, 10, 0, 0, false), (79, 10, 6, 0, false), (86, 10, 2, 0, false), (101, 10, 16, 0, false), (104, 10, 17, 0, false), (122, 10, 14, 0, false), (148, 10, 20, 0, false), (215, 10, 7, 0, false), (224, 10, 12, 0, false), (230, 10, 25, 0, false), (272, 10, 28, 0, false), (310, 10, 31, 2, false)]
def zFT11 : List (Nat × Nat × Nat × Nat × Bool) := []
def zFT12 : List (Nat × Nat × Nat × Nat × Bool) := []
def zFT13 : List (Nat × Nat × Nat × Nat × Bool) := []
def zFT (c : Nat) : List (Nat × Nat × Nat × Nat × Bool) := match c with
  | 0 => zFT0
  | 1 => zFT1
  | 2 => zFT2
  | 3 => zFT3
  | 4 => zFT4
  | 5 => zFT5
  | 6 => zFT6
  | 7 => zFT7
  | 8 => zFT8
  | 9 => zFT9
  | 10 => zFT10
  | 11 => zFT11
  | 12 => zFT12
  | 13 => zFT13
  | _ => []
def zFld (c i : Nat) : Option (Nat × Nat × Nat × Bool) := ((zFT c).find? (fun e => e.1 == i)).map (fun e => e.2)
def zStat (c i : Nat) : Option Nat := match c, i with
  | 0, 59 => some 0
  | 0, 49 => some 1
  | 1, 25 => some 2
  | 1, 28 => some 1
  | _, _ => none
def zCst (c i : Nat) : Option Int := match c, i with
  | 0, 41 => some 1000000
  | 12, 265 => some 1431655765
  | 12, 266 => some 858993459
  | 12, 267 => some 252645135
  | 12, 264 => some 65536
  | 10, 107 => some 1048576
  | _, _ => none
def zCstL (c i : Nat) : Option Int64 := match c, i with
  | 9, 181 => some 1607
  | 9, 199 => some 31
  | 10, 318 => some 1607
  | 10, 308 => some 31
  | _, _ => none
def zNF (c : Nat) : Nat := match c with
  | 0 => 1
  | 1 => 4
  | 2 => 8
  | 3 => 6
  | 4 => 7
  | 5 => 3
  | 6 => 3
  | 7 => 12
  | 8 => 2
  | 9 => 9
  | 10 => 32
  | _ => 0
def zNew (c i : Nat) : Option Nat := match c, i with
  | 11, 7 => some 9
  | 11, 10 => some 10
  | 9, 7 => some 8
  | 9, 16 => some 3
  | 9, 23 => some 7
  | 9, 30 => some 6
  | 9, 37 => some 2
  | 9, 44 => some 4
  | 9, 51 => some 5
  | 3, 9 => some 8
  | 3, 17 => some 1
  | 3, 23 => some 0
  | _, _ => none
/-- the type of a class's field -/
def zTy (c k : Nat) : Nat := match c with
  | 0 => ([3] : List Nat).getD k 0
  | 1 => ([3, 3, 1, 1] : List Nat).getD k 0
  | 2 => ([3, 3, 3, 3, 3, 0, 0, 0] : List Nat).getD k 0
  | 3 => ([3, 3, 3, 0, 0, 0] : List Nat).getD k 0
  | 4 => ([3, 3, 3, 3, 0, 0, 0] : List Nat).getD k 0
  | 5 => ([3, 0, 0] : List Nat).getD k 0
  | 6 => ([3, 0, 0] : List Nat).getD k 0
  | 7 => ([3, 3, 3, 3, 3, 3, 3, 3, 0, 0, 0, 0] : List Nat).getD k 0
  | 8 => ([3, 0] : List Nat).getD k 0
  | 9 => ([3, 3, 3, 3, 3, 3, 3, 0, 0] : List Nat).getD k 0
  | 10 => ([0, 3, 0, 3, 3, 0, 0, 0, 3, 3, 3, 3, 0, 3, 0, 3, 0, 0, 3, 3, 0, 3, 3, 3, 3, 0, 3, 3, 0, 3, 3, 2] : List Nat).getD k 0
  | _ => 0
end
section
/-! THE SMALL MACHINE: the claim's methods run over a heap of plain numbers. A value is an int, a long, a reference (a cell's number) or unset; the heap is the shapes of the cells (kind, size), the references they hold, the numbers they hold. Kinds 0 to 10: objects of the classes; 20 int[], 21 boolean[], 22 Text[], 23 Alignment[], 24 int[][]; others: no cell that is looked at. -/
abbrev zV : Type := Int ⊕ (Int64 ⊕ (Nat ⊕ Unit))
abbrev iV (a : Int) : zV := Sum.inl a
abbrev lV (x : Int64) : zV := Sum.inr (Sum.inl x)
abbrev rV (a : Nat) : zV := Sum.inr (Sum.inr (Sum.inl a))
abbrev uV : zV := Sum.inr (Sum.inr (Sum.inr ()))
abbrev zM : Type := Nat → Nat → Int
abbrev zS : Type := List (Nat × Nat) × zM × zM
def zU (M : zM) (a k : Nat) (v : Int) : zM := fun a' k' => if a' = a ∧ k' = k then v else M a' k'
def zZ (M : zM) (n a : Nat) (v : Int) : zM := fun a' k' => if a ≤ a' ∧ a' < a + n then v else M a' k'
def zR (a : Int) : Prop := -2147483648 ≤ a ∧ a ≤ 2147483647
/-- a long as two ints -/
def zHi (x : Int64) : Int := x.toInt / 4294967296
def zLo (x : Int64) : Int := if 2147483648 ≤ x.toInt % 4294967296 then x.toInt % 4294967296 - 4294967296 else x.toInt % 4294967296
def zLg (hi lo : Int) : Int64 := Int64.ofInt (hi * 4294967296 + (if lo < 0 then lo + 4294967296 else lo))
def zI2 (f : Int32 → Int32 → Int32) (a b : Int) : Int := (f (Int32.ofInt a) (Int32.ofInt b)).toInt
def zShl (x y : Int32) : Int32 := x <<< (y &&& 31)
def zShr (x y : Int32) : Int32 := x >>> (y &&& 31)
def zUsr (x y : Int32) : Int32 := (x.toUInt32 >>> (y.toUInt32 &&& Int32.toUInt32 31)).toInt32
def zRem (x y : Int32) : Int32 := x - x / y * y
def zC (c : Jvm.ClassFile.Cond) (a b : Int) : Bool := match c with
  | .eq => decide (a = b)
  | .ne => decide (¬ a = b)
  | .lt => decide (a < b)
  | .ge => decide (b ≤ a)
  | .gt => decide (b < a)
  | .le => decide (a ≤ b)
def zCat (v : zV) : Nat := match v with
  | .inr (.inl _) => 2
  | _ => 1
def zCs (l : List zV) : Nat := (l.map zCat).sum
/-- the locals at a method's entry -/
def zSl (as : List zV) : List zV := as.flatMap (fun v => if zCat v = 2 then [v, uV] else [v])
def zEnt (maxL : Nat) (as : List zV) : List zV := zSl as ++ List.replicate (maxL - (zSl as).length) uV
abbrev zT : Type := (Nat × List zV × List zV × zS) ⊕ ((zD × List zV × List zV) ⊕ Option zV)
def zNx (ok : Bool) (pc : Nat) (ls st : List zV) (q : zS) : Option zT := if ok = true then some (.inl (pc, ls, st, q)) else none
def zJp (ok : Bool) (pc : Nat) (off : Int) (ls st : List zV) (q : zS) : Option zT := zNx (ok && decide (0 ≤ (pc : Int) + off)) ((pc : Int) + off).toNat ls st q
def zBin (pc len : Nat) (f : Int32 → Int32 → Int32) (ok : Int → Bool) (ls st : List zV) (q : zS) : Option zT := match st with
  | .inl b :: .inl a :: r => zNx (len == 1 && ok b) (pc + 1) ls (iV (zI2 f a b) :: r) q
  | _ => none
def zLdI (pc len w k : Nat) (ls st : List zV) (q : zS) : Option zT := match ls[k]? with
  | some (.inl a) => zNx (len == w) (pc + w) ls (iV a :: st) q
  | _ => none
def zLdL (pc len w k : Nat) (ls st : List zV) (q : zS) : Option zT := match ls[k]? with
  | some (.inr (.inl x)) => zNx (len == w) (pc + w) ls (lV x :: st) q
  | _ => none
def zLdA (pc len w k : Nat) (ls st : List zV) (q : zS) : Option zT := match ls[k]? with
  | some (.inr (.inr (.inl a))) => zNx (len == w) (pc + w) ls (rV a :: st) q
  | _ => none
/-- no long stands just below a place -/
def zFree (ls : List zV) (k : Nat) : Bool := match k with
  | 0 => true
  | k + 1 => match ls[k]? with
    | some v => zCat v == 1
    | none => true
def zStI (pc len w k : Nat) (ls st : List zV) (q : zS) : Option zT := match st with
  | .inl a :: r => zNx (len == w && decide (k < ls.length) && zFree ls k) (pc + w) (ls.set k (iV a)) r q
  | _ => none
def zStL (pc len w k : Nat) (ls st : List zV) (q : zS) : Option zT := match st with
  | .inr (.inl x) :: r => zNx (len == w && decide (k + 1 < ls.length) && zFree ls k) (pc + w) ((ls.set k (lV x)).set (k + 1) uV) r q
  | _ => none
def zStA (pc len w k : Nat) (ls st : List zV) (q : zS) : Option zT := match st with
  | .inr (.inr (.inl a)) :: r => zNx (len == w && decide (k < ls.length) && zFree ls k) (pc + w) (ls.set k (rV a)) r q
  | _ => none
def zGetF (pc len : Nat) (f : Option (Nat × Nat × Nat × Bool)) (ls st : List zV) (q : zS) : Option zT := match st, f with
  | .inr (.inr (.inl a)) :: r, some (C, k, t, _) =>
    if q.1[a]?.map Prod.fst = some C then
      if t = 3 then zNx (len == 3 && decide (0 ≤ q.2.1 a k)) (pc + 3) ls (rV (q.2.1 a k).toNat :: r) q
      else if t = 2 then zNx (len == 3) (pc + 3) ls (lV (zLg (q.2.2 a k) (q.2.2 a (k + 1000))) :: r) q
      else zNx (len == 3) (pc + 3) ls (iV (q.2.2 a k) :: r) q
    else none
  | _, _ => none
def zPutF (m : zD) (pc len : Nat) (f : Option (Nat × Nat × Nat × Bool)) (ls st : List zV) (q : zS) : Option zT := match st, f with
  | .inl x :: .inr (.inr (.inl a)) :: r, some (C, k, t, fin) =>
    if q.1[a]?.map Prod.fst = some C ∧ 4 ≤ a ∧ (t = 0 ∨ t = 1 ∧ (x = 0 ∨ x = 1)) ∧ fin = false then zNx (len == 3) (pc + 3) ls r (q.1, q.2.1, zU q.2.2 a k x) else none
  | .inr (.inl x) :: .inr (.inr (.inl a)) :: r, some (C, k, t, fin) =>
    if q.1[a]?.map Prod.fst = some C ∧ 4 ≤ a ∧ t = 2 ∧ fin = false then zNx (len == 3) (pc + 3) ls r (q.1, q.2.1, zU (zU q.2.2 a k (zHi x)) a (k + 1000) (zLo x)) else none
  | .inr (.inr (.inl v)) :: .inr (.inr (.inl a)) :: r, some (C, k, t, fin) =>
    if q.1[a]?.map Prod.fst = some C ∧ 4 ≤ a ∧ t = 3 ∧ fin = true ∧ m.1 = C ∧ m.2.1.name = "<init>" then zNx (len == 3) (pc + 3) ls r (q.1, zU q.2.1 a k v, q.2.2) else none
  | _, _ => none
/-- an element of a row of numbers of kind kd -/
def zALd (pc len kd : Nat) (ls st : List zV) (q : zS) : Option zT := match st with
  | .inl i :: .inr (.inr (.inl a)) :: r => match q.1[a]? with
    | some (k, n) => if k = kd ∧ 0 ≤ i ∧ i < n then zNx (len == 1) (pc + 1) ls (iV (q.2.2 a i.toNat) :: r) q else none
    | none => none
  | _ => none
def zRLd (pc len : Nat) (ls st : List zV) (q : zS) : Option zT := match st with
  | .inl i :: .inr (.inr (.inl a)) :: r => match q.1[a]? with
    | some (k, n) => if (k = 22 ∨ k = 23 ∨ k = 24) ∧ 0 ≤ i ∧ i < n ∧ 0 ≤ q.2.1 a i.toNat then zNx (len == 1) (pc + 1) ls (rV (q.2.1 a i.toNat).toNat :: r) q else none
    | none => none
  | _ => none
def zASt (pc len kd : Nat) (ls st : List zV) (q : zS) : Option zT := match st with
  | .inl x :: .inl i :: .inr (.inr (.inl a)) :: r => match q.1[a]? with
    | some (k, n) => if k = kd ∧ 4 ≤ a ∧ 0 ≤ i ∧ i < n ∧ (kd = 20 ∨ x = 0 ∨ x = 1) then zNx (len == 1) (pc + 1) ls r (q.1, q.2.1, zU q.2.2 a i.toNat x) else none
    | none => none
  | _ => none
def zRSt (pc len : Nat) (ls st : List zV) (q : zS) : Option zT := match st with
  | .inr (.inr (.inl v)) :: .inl i :: .inr (.inr (.inl a)) :: r => match q.1[a]? with
    | some (k, n) => if ((k = 22 ∧ q.1[v]?.map Prod.fst = some 8) ∨ (k = 23 ∧ q.1[v]?.map Prod.fst = some 1)) ∧ 4 ≤ a ∧ 0 ≤ i ∧ i < n then zNx (len == 1) (pc + 1) ls r (q.1, zU q.2.1 a i.toNat v, q.2.2) else none
    | none => none
  | _ => none
def zALen (pc len : Nat) (ls st : List zV) (q : zS) : Option zT := match st with
  | .inr (.inr (.inl a)) :: r => match q.1[a]? with
    | some (k, n) => if (k = 20 ∨ k = 21 ∨ k = 22 ∨ k = 23 ∨ k = 24) ∧ n < 100000 then zNx (len == 1) (pc + 1) ls (iV n :: r) q else none
    | none => none
  | _ => none
/-- cells that are made: n of a kind and a size -/
def zPush (q : zS) (n kd sz : Nat) : zS := (q.1 ++ List.replicate n (kd, sz), zZ q.2.1 n q.1.length (-1), zZ q.2.2 n q.1.length 0)
def zNewO (pc len : Nat) (c : Option Nat) (ls st : List zV) (q : zS) : Option zT := match c with
  | some C => zNx (len == 3 && decide (C < 11)) (pc + 3) ls (rV q.1.length :: st) (zPush q 1 C (zNF C))
  | none => none
def zNewA (pc len w kd : Nat) (ls st : List zV) (q : zS) : Option zT := match st with
  | .inl n :: r => zNx (len == w && decide (0 ≤ n) && decide (n < 10000)) (pc + w) ls (rV q.1.length :: r) (zPush q 1 kd n.toNat)
  | _ => none
def zNewM (pc len : Nat) (ls st : List zV) (q : zS) : Option zT := match st with
  | .inl k :: .inl n :: r => zNx (len == 4 && decide (0 ≤ n) && decide (n < 10000) && decide (0 ≤ k) && decide (k < 10000)) (pc + 4) ls (rV q.1.length :: r)
      (let p := zPush (zPush q 1 24 n.toNat) n.toNat 20 k.toNat
       (p.1, (fun a j => if a = q.1.length ∧ j < n.toNat then ((q.1.length + 1 + j : Nat) : Int) else p.2.1 a j), p.2.2))
  | _ => none
def zCallV (pc len : Nat) (f : Option (Nat × Nat × zD)) (st : List zV) (q : zS) : Option zT := match f with
  | some (kd, np, m) => match st.drop np with
    | .inr (.inr (.inl a)) :: rest => if kd = 0 ∧ len = 3 ∧ zCs rest ≤ 8 ∧ q.1[a]?.map Prod.fst = some m.1 ∧ (zSl (rV a :: (st.take np).reverse)).length ≤ m.2.2.2.1 then some (.inr (.inl (m, rV a :: (st.take np).reverse, rest))) else none
    | _ => none
  | none => none
def zCallS (pc len : Nat) (f : Option (Nat × Nat × zD)) (st : List zV) (q : zS) : Option zT := match f with
  | some (kd, np, m) => if kd = 1 ∧ len = 3 ∧ zCs (st.drop np) ≤ 8 ∧ np ≤ st.length ∧ (zSl (st.take np).reverse).length ≤ m.2.2.2.1 then some (.inr (.inl (m, (st.take np).reverse, st.drop np))) else none
  | none => none
def zCallI (pc len : Nat) (o : Bool) (f : Option (Nat × Nat × zD)) (ls st : List zV) (q : zS) : Option zT := match st with
  | .inr (.inr (.inl a)) :: rest => if o = true then zNx (len == 3 && decide (zCs rest ≤ 8)) (pc + 3) ls rest q else match f with
    | some (kd, np, m) => if (kd = 2 ∨ kd = 3) ∧ np = 0 ∧ len = 3 ∧ zCs rest ≤ 8 ∧ 1 ≤ m.2.2.2.1 then some (.inr (.inl (m, [rV a], rest))) else none
    | none => none
  | _ => none
def zMathS (pc len a : Nat) (ls st : List zV) (q : zS) : Option zT := match a, st with
  | 0, .inl b :: .inl a :: r => zNx (len == 3 && decide (zCs r ≤ 8)) (pc + 3) ls (iV (if a < b then b else a) :: r) q
  | 1, .inl b :: .inl a :: r => zNx (len == 3 && decide (zCs r ≤ 8)) (pc + 3) ls (iV (if b < a then b else a) :: r) q
  | 2, .inl a :: r => zNx (len == 3 && decide (zCs r ≤ 8)) (pc + 3) ls (iV (if 0 ≤ a then a else (0 - Int32.ofInt a).toInt) :: r) q
  | _, _ => none
def zRet (m : zD) (len : Nat) (st : List zV) : Option zT := match st with
  | [.inl a] => if len = 1 ∧ (m.2.2.2.2 = some .int ∨ m.2.2.2.2 = some .boolean ∧ (a = 0 ∨ a = 1)) then some (.inr (.inr (some (iV a)))) else none
  | _ => none
def zEx (m : zD) (pc len : Nat) (i : Jvm.ClassFile.Instr) (ls st : List zV) (q : zS) : Option zT := match i with
  | .iconst n => zNx (len == 1 && decide (-128 ≤ n ∧ n < 128)) (pc + 1) ls (iV n :: st) q
  | .bipush n => zNx (len == 2 && decide (-128 ≤ n ∧ n < 128)) (pc + 2) ls (iV n :: st) q
  | .sipush n => zNx (len == 3 && decide (-32768 ≤ n ∧ n < 32768)) (pc + 3) ls (iV n :: st) q
  | .ldc k => match zCst m.1 k with
    | some v => zNx (len == 2) (pc + 2) ls (iV v :: st) q
    | none => none
  | .ldc_w k => match zCst m.1 k with
    | some v => zNx (len == 3) (pc + 3) ls (iV v :: st) q
    | none => none
  | .ldc2_w k => match zCstL m.1 k with
    | some v => zNx (len == 3) (pc + 3) ls (lV v :: st) q
    | none => none
  | .iload k => zLdI pc len 2 k ls st q
  | .iload_n k => zLdI pc len 1 k.val ls st q
  | .lload k => zLdL pc len 2 k ls st q
  | .lload_n k => zLdL pc len 1 k.val ls st q
  | .aload k => zLdA pc len 2 k ls st q
  | .aload_n k => zLdA pc len 1 k.val ls st q
  | .istore k => zStI pc len 2 k ls st q
  | .istore_n k => zStI pc len 1 k.val ls st q
  | .lstore k => zStL pc len 2 k ls st q
  | .lstore_n k => zStL pc len 1 k.val ls st q
  | .astore k => zStA pc len 2 k ls st q
  | .astore_n k => zStA pc len 1 k.val ls st q
  | .iinc k n => match ls[k]? with
    | some (.inl a) => zNx (len == 3 && zFree ls k) (pc + 3) (ls.set k (iV (zI2 (· + ·) a n))) st q
    | _ => none
  | .iadd => zBin pc len (· + ·) (fun _ => true) ls st q
  | .isub => zBin pc len (· - ·) (fun _ => true) ls st q
  | .imul => zBin pc len (· * ·) (fun _ => true) ls st q
  | .iand => zBin pc len (· &&& ·) (fun _ => true) ls st q
  | .ior => zBin pc len (· ||| ·) (fun _ => true) ls st q
  | .ixor => zBin pc len (· ^^^ ·) (fun _ => true) ls st q
  | .ishl => zBin pc len zShl (fun _ => true) ls st q
  | .ishr => zBin pc len zShr (fun _ => true) ls st q
  | .iushr => zBin pc len zUsr (fun _ => true) ls st q
  | .idiv => zBin pc len (· / ·) (fun b => decide (¬ b = 0)) ls st q
  | .irem => zBin pc len zRem (fun b => decide (¬ b = 0)) ls st q
  | .ineg => match st with
    | .inl a :: r => zNx (len == 1) (pc + 1) ls (iV (-(Int32.ofInt a)).toInt :: r) q
    | _ => none
  | .i2l => match st with
    | .inl a :: r => zNx (len == 1) (pc + 1) ls (lV (Int32.ofInt a).toInt64 :: r) q
    | _ => none
  | .ladd => match st with
    | .inr (.inl b) :: .inr (.inl a) :: r => zNx (len == 1) (pc + 1) ls (lV (a + b) :: r) q
    | _ => none
  | .lmul => match st with
    | .inr (.inl b) :: .inr (.inl a) :: r => zNx (len == 1) (pc + 1) ls (lV (a * b) :: r) q
    | _ => none
  | .lcmp => match st with
    | .inr (.inl b) :: .inr (.inl a) :: r => zNx (len == 1) (pc + 1) ls (iV (lg_cmp a b).toInt :: r) q
    | _ => none
  | .dup => match st with
    | v :: r => zNx (len == 1 && zCat v == 1) (pc + 1) ls (v :: v :: r) q
    | _ => none
  | .pop => match st with
    | v :: r => zNx (len == 1 && zCat v == 1) (pc + 1) ls r q
    | _ => none
  | .dup2 => match st with
    | v :: w :: r => zNx (len == 1 && zCat v == 1 && zCat w == 1) (pc + 1) ls (v :: w :: v :: w :: r) q
    | _ => none
  | .ifCond c off => match st with
    | .inl a :: r => if zC c a 0 = true then zJp (len == 3) pc off ls r q else zNx (len == 3) (pc + 3) ls r q
    | _ => none
  | .if_icmp c off => match st with
    | .inl b :: .inl a :: r => if zC c a b = true then zJp (len == 3) pc off ls r q else zNx (len == 3) (pc + 3) ls r q
    | _ => none
  | .goto off => zJp (len == 3) pc off ls st q
  | .tableswitch d lo hi offs => match st with
    | .inl a :: r => if a < lo ∨ hi < a then zJp true pc d ls r q else match offs[(a - lo).toNat]? with
      | some off => zJp true pc off ls r q
      | none => none
    | _ => none
  | .getfield k => zGetF pc len (zFld m.1 k) ls st q
  | .putfield k => zPutF m pc len (zFld m.1 k) ls st q
  | .getstatic k => match zStat m.1 k with
    | some a => zNx (len == 3) (pc + 3) ls (rV a :: st) q
    | none => none
  | .iaload => zALd pc len 20 ls st q
  | .baload => zALd pc len 21 ls st q
  | .aaload => zRLd pc len ls st q
  | .iastore => zASt pc len 20 ls st q
  | .bastore => zASt pc len 21 ls st q
  | .aastore => zRSt pc len ls st q
  | .arraylength => zALen pc len ls st q
  | .new k => zNewO pc len (zNew m.1 k) ls st q
  | .newarray t => if t = .int then zNewA pc len 2 20 ls st q else if t = .boolean then zNewA pc len 2 21 ls st q else none
  | .anewarray k => if zNew m.1 k = some 8 then zNewA pc len 3 22 ls st q else if zNew m.1 k = some 1 then zNewA pc len 3 23 ls st q else none
  | .multianewarray k d => if (m.1 = 6 ∨ m.1 = 7) ∧ k = 9 ∧ d = 2 then zNewM pc len ls st q else none
  | .invokevirtual k => zCallV pc len (zCall m.1 k) st q
  | .invokestatic k => match zMth m.1 k with
    | some a => zMathS pc len a ls st q
    | none => zCallS pc len (zCall m.1 k) st q
  | .invokespecial k => zCallI pc len (zObj m.1 k) (zCall m.1 k) ls st q
  | .ireturn => zRet m len st
  | .lreturn => match st with
    | [.inr (.inl x)] => if len = 1 ∧ m.2.2.2.2 = some .long then some (.inr (.inr (some (lV x)))) else none
    | _ => none
  | .areturn => match st, m.2.2.2.2 with
    | [.inr (.inr (.inl a))], some (.object _) => if len = 1 then some (.inr (.inr (some (rV a)))) else none
    | _, _ => none
  | .return_ => match st with
    | [] => if len = 1 ∧ m.2.2.2.2 = none then some (.inr (.inr none)) else none
    | _ => none
  | _ => none
/-- n: steps, over all calls; d: how deep calls may go -/
def zRun : Nat → Nat → zD → Nat → List zV → List zV → zS → Option (Option zV × zS)
  | 0, _, _, _, _, _, _ => none
  | n + 1, d, m, pc, ls, st, q => match decode m.2.2.1 pc with
    | .ok (i, len) => match zEx m pc len i ls st q with
      | some (.inl (pc', ls', st', q')) => zRun n d m pc' ls' st' q'
      | some (.inr (.inl (m', as, rest))) => match d with
        | 0 => none
        | d' + 1 => match zRun n d' m' 0 (zEnt m'.2.2.2.1 as) [] q with
          | some (r, q') => zRun n (d' + 1) m (pc + 3) ls (r.toList ++ rest) q'
          | none => none
      | some (.inr (.inr r)) => some (r, q)
      | none => none
    | _ => none
end
section
/-! the words that hold at every state of the claim's methods, and that a call hands on -/
def zGW : List Cond := lw_tbl.filter goodWord
def zPart (j : Nat) : List Cond := match j with
  | 0 => k2_sels lw_privs
  | 1 => tables_1_1
  | 2 => tables_1_2
  | 3 => tables_1_3
  | 4 => tables_1_4
  | 5 => tables_1_5
  | 6 => tables_1_6
  | _ => []
theorem zPart_in {j : Nat} {w : Cond} (h : w ∈ zPart j) : w ∈ lw_tbl := by
  unfold lw_tbl tables_1
  match j, h with
  | 0, h => exact List.mem_append_left _ h
  | 1, h => exact List.mem_append_right _ (List.mem_append_left _ h)
  | 2, h => exact List.mem_append_right _ (List.mem_append_right _ (List.mem_append_left _ h))
  | 3, h => exact List.mem_append_right _ (List.mem_append_right _ (List.mem_append_right _ (List.mem_append_left _ h)))
  | 4, h => exact List.mem_append_right _ (List.mem_append_right _ (List.mem_append_right _ (List.mem_append_right _ (List.mem_append_left _ h))))
  | 5, h => exact List.mem_append_right _ (List.mem_append_right _ (List.mem_append_right _ (List.mem_append_right _ (List.mem_append_right _ (List.mem_append_left _ h)))))
  | 6, h => exact List.mem_append_right _ (List.mem_append_right _ (List.mem_append_right _ (List.mem_append_right _ (List.mem_append_right _ (List.mem_append_right _ ( h))))))
  | j + 7, h => exact absurd h List.not_mem_nil
def zPl (p : Nat) : Option Cond := (zPart (p / 1000))[p % 1000]?
theorem zPl_in {p : Nat} {w : Cond} (h : zPl p = some w) : w ∈ lw_tbl := zPart_in (List.mem_of_getElem? h)
def zAt (p : Nat) (w : Cond) : Bool := decide (zPl p = some w) && goodWord w
theorem zAt_mem {p : Nat} {w : Cond} (h : zAt p w = true) : w ∈ zGW := by
  unfold zAt at h
  rw [Bool.and_eq_true] at h
  exact List.mem_filter.mpr ⟨zPl_in (of_decide_eq_true h.1), h.2⟩
theorem zGW_good : ∀ w ∈ zGW, (w.onTables && w.keeps) = true ∨ ∃ ty, w = .arrayClass ty := fun w h => good_of_word (List.mem_filter.mp h).2
def zWs (m : zD) : List Cond := Cond.code m.2.1 m.2.2.1 m.2.2.2.1 m.2.2.2.2 :: zGW
/-- words that a call does not hand on by itself: links to private members of nest mates -/
def zNW : List Cond := [Cond.methodLinkNest "StopPress" (9 : Nat) ({ cls := "StopPress$Text", name := "<init>", desc := "()V" } : MethodName) "StopPress", Cond.methodLinkNest "StopPress$Collation" (25 : Nat) ({ cls := "StopPress$Aligner", name := "<init>", desc := "()V" } : MethodName) "StopPress", Cond.methodLinkNest "StopPress$Collation" (40 : Nat) ({ cls := "StopPress$Text", name := "<init>", desc := "()V" } : MethodName) "StopPress", Cond.methodLinkNest "StopPress$Collation" (41 : Nat) ({ cls := "StopPress$Alignment", name := "<init>", desc := "()V" } : MethodName) "StopPress", Cond.methodLinkNest "StopPress" (25 : Nat) ({ cls := "StopPress$Stemma", name := "<init>", desc := "()V" } : MethodName) "StopPress", Cond.methodLinkNest "StopPress" (32 : Nat) ({ cls := "StopPress$Sightings", name := "<init>", desc := "()V" } : MethodName) "StopPress", Cond.methodLinkNest "StopPress" (39 : Nat) ({ cls := "StopPress$Chronology", name := "<init>", desc := "()V" } : MethodName) "StopPress", Cond.methodLinkNest "StopPress" (46 : Nat) ({ cls := "StopPress$Fault", name := "<init>", desc := "()V" } : MethodName) "StopPress", Cond.methodLinkNest "StopPress" (53 : Nat) ({ cls := "StopPress$Presses", name := "<init>", desc := "()V" } : MethodName) "StopPress", Cond.fieldLinkNest "StopPress$Aligner" (59 : Nat) "StopPress" "GROUP_OF_LETTER" "[I" "StopPress", Cond.fieldLinkNest "StopPress$Aligner" (49 : Nat) "StopPress" "COST_OF_KIND" "[I" "StopPress", Cond.fieldLinkNest "StopPress$Alignment" (25 : Nat) "StopPress" "STEP_OF_KIND" "[I" "StopPress", Cond.fieldLinkNest "StopPress$Alignment" (28 : Nat) "StopPress" "COST_OF_KIND" "[I" "StopPress"]
def zNP : List Nat := [1024, 1048, 1056, 1058, 1096, 1141, 1158, 1189, 1217, 2151, 2153, 2166, 2168]
theorem zNW_in : ∀ w ∈ zNW, w ∈ lw_tbl := by
  have h : zNW = zNP.filterMap zPl := by decide +kernel
  intro w hw
  rw [h] at hw
  obtain ⟨i, -, hi⟩ := List.mem_filterMap.mp hw
  exact zPl_in hi
theorem zmem (ws : List Cond) (ps : List Nat) (hp : ws = ps.filterMap zPl) (hg : ws.all goodWord = true) : ∀ w ∈ ws, w ∈ zGW := by
  intro w hw
  refine List.mem_filter.mpr ⟨?_, List.all_eq_true.mp hg w hw⟩
  rw [hp] at hw
  obtain ⟨i, -, hi⟩ := List.mem_filterMap.mp hw
  exact zPl_in hi
theorem ziX0 : ∀ w ∈ u_ws RX0 TX0 1, w ∈ zGW := zmem _ [1053] (by decide +kernel) (by decide +kernel)
theorem ziX1 : ∀ w ∈ u_ws RX1 TX1 4, w ∈ zGW := zmem _ [1066, 1068, 1070, 1072] (by decide +kernel) (by decide +kernel)
theorem ziX2 : ∀ w ∈ u_ws RX2 TX2 8, w ∈ zGW := zmem _ [1170, 1172, 1174, 1176, 1178, 1180, 1182, 1184] (by decide +kernel) (by decide +kernel)
theorem ziX3 : ∀ w ∈ u_ws RX3 TX3 6, w ∈ zGW := zmem _ [1081, 1083, 1085, 1087, 1089, 1091] (by decide +kernel) (by decide +kernel)
theorem ziX4 : ∀ w ∈ u_ws RX4 TX4 7, w ∈ zGW := zmem _ [1200, 1202, 1204, 1206, 1208, 1210, 1212] (by decide +kernel) (by decide +kernel)
theorem ziX5 : ∀ w ∈ u_ws RX5 TX5 3, w ∈ zGW := zmem _ [1224, 1226, 1228] (by decide +kernel) (by decide +kernel)
theorem ziX6 : ∀ w ∈ u_ws RX6 TX6 3, w ∈ zGW := zmem _ [1149, 1151, 1153] (by decide +kernel) (by decide +kernel)
theorem ziX7 : ∀ w ∈ u_ws RX7 TX7 12, w ∈ zGW := zmem _ [1114, 1116, 1118, 1120, 1122, 1124, 1126, 1128, 1130, 1132, 1134, 1136] (by decide +kernel) (by decide +kernel)
theorem ziX8 : ∀ w ∈ u_ws RX8 TX8 2, w ∈ zGW := zmem _ [1030, 1032] (by decide +kernel) (by decide +kernel)
theorem ziX9 : ∀ w ∈ u_ws RX9 TX9 9, w ∈ zGW := zmem _ [2000, 2002, 2004, 2006, 2008, 2010, 2012, 2014, 2016] (by decide +kernel) (by decide +kernel)
theorem ziX10 : ∀ w ∈ u_ws RX10 TX10 32, w ∈ zGW := zmem _ [4119, 4121, 4123, 4125, 4127, 4129, 4131, 4133, 4135, 4137, 4139, 4141, 4143, 4145, 4147, 4149, 4151, 4153, 4155, 4157, 4159, 4161, 4163, 4165, 4167, 4169, 4171, 4173, 4175, 4177, 4179, 4181] (by decide +kernel) (by decide +kernel)
abbrev zCls : List vw_C := [(RX0, TX0, 1), (RX1, TX1, 4), (RX2, TX2, 8), (RX3, TX3, 6), (RX4, TX4, 7), (RX5, TX5, 3), (RX6, TX6, 3), (RX7, TX7, 12), (RX8, TX8, 2), (RX9, TX9, 9), (RX10, TX10, 32)]
def zTT (c : Nat) : u_T := match c with
  | 0 => TX0
  | 1 => TX1
  | 2 => TX2
  | 3 => TX3
  | 4 => TX4
  | 5 => TX5
  | 6 => TX6
  | 7 => TX7
  | 8 => TX8
  | 9 => TX9
  | _ => TX10
def zTyF (c : Nat) : Nat → FieldType := match c with
  | 0 => tyX0
  | 1 => tyX1
  | 2 => tyX2
  | 3 => tyX3
  | 4 => tyX4
  | 5 => tyX5
  | 6 => tyX6
  | 7 => tyX7
  | 8 => tyX8
  | 9 => tyX9
  | _ => tyX10
theorem zCls_at {c : Nat} (h : c < 11) : zCls[c]? = some (zCn c, zTT c, zNF c) := by
  rcases (show c = 0 ∨ c = 1 ∨ c = 2 ∨ c = 3 ∨ c = 4 ∨ c = 5 ∨ c = 6 ∨ c = 7 ∨ c = 8 ∨ c = 9 ∨ c = 10 by omega) with rfl | rfl | rfl | rfl | rfl | rfl | rfl | rfl | rfl | rfl | rfl <;> rfl
theorem zi_c {c : Nat} (h : c < 11) : ∀ w ∈ u_ws (zCn c) (zTT c) (zNF c), w ∈ zGW := by
  rcases (show c = 0 ∨ c = 1 ∨ c = 2 ∨ c = 3 ∨ c = 4 ∨ c = 5 ∨ c = 6 ∨ c = 7 ∨ c = 8 ∨ c = 9 ∨ c = 10 by omega) with rfl | rfl | rfl | rfl | rfl | rfl | rfl | rfl | rfl | rfl | rfl
  · exact ziX0
  · exact ziX1
  · exact ziX2
  · exact ziX3
  · exact ziX4
  · exact ziX5
  · exact ziX6
  · exact ziX7
  · exact ziX8
  · exact ziX9
  · exact ziX10
theorem znm_c {c : Nat} (h : c < 11) : ∀ a, a < zNF c → ∀ b, b < zNF c → a ≠ b → (zTT c a).2.1 ≠ (zTT c b).2.1 := by
  rcases (show c = 0 ∨ c = 1 ∨ c = 2 ∨ c = 3 ∨ c = 4 ∨ c = 5 ∨ c = 6 ∨ c = 7 ∨ c = 8 ∨ c = 9 ∨ c = 10 by omega) with rfl | rfl | rfl | rfl | rfl | rfl | rfl | rfl | rfl | rfl | rfl
  · exact nmX0
  · exact nmX1
  · exact nmX2
  · exact nmX3
  · exact nmX4
  · exact nmX5
  · exact nmX6
  · exact nmX7
  · exact nmX8
  · exact nmX9
  · exact nmX10
theorem zty_c {c : Nat} (h : c < 11) : ∀ k, k < zNF c → parseFieldDescriptor (zTT c k).2.2.1 = some (zTyF c k) := by
  rcases (show c = 0 ∨ c = 1 ∨ c = 2 ∨ c = 3 ∨ c = 4 ∨ c = 5 ∨ c = 6 ∨ c = 7 ∨ c = 8 ∨ c = 9 ∨ c = 10 by omega) with rfl | rfl | rfl | rfl | rfl | rfl | rfl | rfl | rfl | rfl | rfl
  · exact tyX0_ok
  · exact tyX1_ok
  · exact tyX2_ok
  · exact tyX3_ok
  · exact tyX4_ok
  · exact tyX5_ok
  · exact tyX6_ok
  · exact tyX7_ok
  · exact tyX8_ok
  · exact tyX9_ok
  · exact tyX10_ok
/-- the kind of a field by its type: 0 int, 1 boolean, 2 long, 3 a reference -/
def zTk (t : FieldType) : Nat := match t with
  | .int => 0
  | .boolean => 1
  | .long => 2
  | _ => 3
def zIsR (t : FieldType) : Bool := match t with
  | .object _ => true
  | .array _ => true
  | _ => false
theorem zTk_c : ∀ c, c < 11 → ∀ k, k < zNF c → zTk (zTyF c k) = zTy c k ∧ (zTy c k = 3 → zIsR (zTyF c k) = true) := by decide +kernel
/-- a row of the table of fields: its link, its class, its slot -/
theorem zmr0 (p : Nat) {w : Cond} (h : zPl p = some w) (hg : goodWord w = true) : w ∈ zGW := List.mem_filter.mpr ⟨zPl_in h, hg⟩
def zFok (c : Nat) (e : Nat × Nat × Nat × Nat × Bool) : Prop := Cond.fieldLink (zCn c) e.1 (zCn e.2.1) (zTT e.2.1 e.2.2.1).2.1 (zTT e.2.1 e.2.2.1).2.2.1 ∈ zGW ∧ e.2.1 < 11 ∧ e.2.2.1 < zNF e.2.1 ∧ zTy e.2.1 e.2.2.1 = e.2.2.2.1 ∧ (zTT e.2.1 e.2.2.1).2.2.2 = e.2.2.2.2 ∧ (zTT e.2.1 e.2.2.1).1 = zCn e.2.1
theorem zf_0_11 : zFok 0 (11, 0, 0, 3, true) := ⟨zmr0 1052 rfl rfl, by decide, by decide, rfl, rfl, rfl⟩
theorem zFo0 : ∀ e ∈ zFT0, zFok 0 e := List.forall_mem_cons.mpr ⟨zf_0_11, fun _ h => absurd h List.not_mem_nil⟩
theorem zf_1_9 : zFok 1 (9, 1, 0, 3, true) := ⟨zmr0 1062 rfl rfl, by decide, by decide, rfl, rfl, rfl⟩
theorem zf_1_15 : zFok 1 (15, 1, 1, 3, true) := ⟨zmr0 1063 rfl rfl, by decide, by decide, rfl, rfl, rfl⟩
theorem zf_1_18 : zFok 1 (18, 1, 2, 1, false) := ⟨zmr0 1064 rfl rfl, by decide, by decide, rfl, rfl, rfl⟩
theorem zf_1_22 : zFok 1 (22, 1, 3, 1, false) := ⟨zmr0 1065 rfl rfl, by decide, by decide, rfl, rfl, rfl⟩
theorem zFo1 : ∀ e ∈ zFT1, zFok 1 e := List.forall_mem_cons.mpr ⟨zf_1_9, List.forall_mem_cons.mpr ⟨zf_1_15, List.forall_mem_cons.mpr ⟨zf_1_18, List.forall_mem_cons.mpr ⟨zf_1_22, fun _ h => absurd h List.not_mem_nil⟩⟩⟩⟩
theorem zf_2_9 : zFok 2 (9, 2, 0, 3, true) := ⟨zmr0 1162 rfl rfl, by decide, by decide, rfl, rfl, rfl⟩
theorem zf_2_15 : zFok 2 (15, 2, 1, 3, true) := ⟨zmr0 1163 rfl rfl, by decide, by decide, rfl, rfl, rfl⟩
theorem zf_2_18 : zFok 2 (18, 2, 2, 3, true) := ⟨zmr0 1164 rfl rfl, by decide, by decide, rfl, rfl, rfl⟩
theorem zf_2_21 : zFok 2 (21, 2, 3, 3, true) := ⟨zmr0 1165 rfl rfl, by decide, by decide, rfl, rfl, rfl⟩
theorem zf_2_24 : zFok 2 (24, 2, 4, 3, true) := ⟨zmr0 1166 rfl rfl, by decide, by decide, rfl, rfl, rfl⟩
theorem zf_2_27 : zFok 2 (27, 2, 5, 0, false) := ⟨zmr0 1167 rfl rfl, by decide, by decide, rfl, rfl, rfl⟩
theorem zf_2_31 : zFok 2 (31, 2, 6, 0, false) := ⟨zmr0 1168 rfl rfl, by decide, by decide, rfl, rfl, rfl⟩
theorem zf_2_34 : zFok 2 (34, 2, 7, 0, false) := ⟨zmr0 1169 rfl rfl, by decide, by decide, rfl, rfl, rfl⟩
theorem zFo2 : ∀ e ∈ zFT2, zFok 2 e := List.forall_mem_cons.mpr ⟨zf_2_9, List.forall_mem_cons.mpr ⟨zf_2_15, List.forall_mem_cons.mpr ⟨zf_2_18, List.forall_mem_cons.mpr ⟨zf_2_21, List.forall_mem_cons.mpr ⟨zf_2_24, List.forall_mem_cons.mpr ⟨zf_2_27, List.forall_mem_cons.mpr ⟨zf_2_31, List.forall_mem_cons.mpr ⟨zf_2_34, fun _ h => absurd h List.not_mem_nil⟩⟩⟩⟩⟩⟩⟩⟩
theorem zf_3_11 : zFok 3 (11, 3, 0, 3, true) := ⟨zmr0 1075 rfl rfl, by decide, by decide, rfl, rfl, rfl⟩
theorem zf_3_19 : zFok 3 (19, 3, 1, 3, true) := ⟨zmr0 1076 rfl rfl, by decide, by decide, rfl, rfl, rfl⟩
theorem zf_3_26 : zFok 3 (26, 3, 2, 3, true) := ⟨zmr0 1077 rfl rfl, by decide, by decide, rfl, rfl, rfl⟩
theorem zf_3_30 : zFok 3 (30, 3, 3, 0, false) := ⟨zmr0 1078 rfl rfl, by decide, by decide, rfl, rfl, rfl⟩
theorem zf_3_34 : zFok 3 (34, 3, 4, 0, false) := ⟨zmr0 1079 rfl rfl, by decide, by decide, rfl, rfl, rfl⟩
theorem zf_3_37 : zFok 3 (37, 3, 5, 0, false) := ⟨zmr0 1080 rfl rfl, by decide, by decide, rfl, rfl, rfl⟩
theorem zFo3 : ∀ e ∈ zFT3, zFok 3 e := List.forall_mem_cons.mpr ⟨zf_3_11, List.forall_mem_cons.mpr ⟨zf_3_19, List.forall_mem_cons.mpr ⟨zf_3_26, List.forall_mem_cons.mpr ⟨zf_3_30, List.forall_mem_cons.mpr ⟨zf_3_34, List.forall_mem_cons.mpr ⟨zf_3_37, fun _ h => absurd h List.not_mem_nil⟩⟩⟩⟩⟩⟩
theorem zf_4_11 : zFok 4 (11, 4, 0, 3, true) := ⟨zmr0 1193 rfl rfl, by decide, by decide, rfl, rfl, rfl⟩
theorem zf_4_15 : zFok 4 (15, 4, 1, 3, true) := ⟨zmr0 1194 rfl rfl, by decide, by decide, rfl, rfl, rfl⟩
theorem zf_4_18 : zFok 4 (18, 4, 2, 3, true) := ⟨zmr0 1195 rfl rfl, by decide, by decide, rfl, rfl, rfl⟩
theorem zf_4_21 : zFok 4 (21, 4, 3, 3, true) := ⟨zmr0 1196 rfl rfl, by decide, by decide, rfl, rfl, rfl⟩
theorem zf_4_24 : zFok 4 (24, 4, 4, 0, false) := ⟨zmr0 1197 rfl rfl, by decide, by decide, rfl, rfl, rfl⟩
theorem zf_4_28 : zFok 4 (28, 4, 5, 0, false) := ⟨zmr0 1198 rfl rfl, by decide, by decide, rfl, rfl, rfl⟩
theorem zf_4_31 : zFok 4 (31, 4, 6, 0, false) := ⟨zmr0 1199 rfl rfl, by decide, by decide, rfl, rfl, rfl⟩
theorem zFo4 : ∀ e ∈ zFT4, zFok 4 e := List.forall_mem_cons.mpr ⟨zf_4_11, List.forall_mem_cons.mpr ⟨zf_4_15, List.forall_mem_cons.mpr ⟨zf_4_18, List.forall_mem_cons.mpr ⟨zf_4_21, List.forall_mem_cons.mpr ⟨zf_4_24, List.forall_mem_cons.mpr ⟨zf_4_28, List.forall_mem_cons.mpr ⟨zf_4_31, fun _ h => absurd h List.not_mem_nil⟩⟩⟩⟩⟩⟩⟩
theorem zf_5_9 : zFok 5 (9, 5, 0, 3, true) := ⟨zmr0 1221 rfl rfl, by decide, by decide, rfl, rfl, rfl⟩
theorem zf_5_15 : zFok 5 (15, 5, 1, 0, false) := ⟨zmr0 1222 rfl rfl, by decide, by decide, rfl, rfl, rfl⟩
theorem zf_5_19 : zFok 5 (19, 5, 2, 0, false) := ⟨zmr0 1223 rfl rfl, by decide, by decide, rfl, rfl, rfl⟩
theorem zFo5 : ∀ e ∈ zFT5, zFok 5 e := List.forall_mem_cons.mpr ⟨zf_5_9, List.forall_mem_cons.mpr ⟨zf_5_15, List.forall_mem_cons.mpr ⟨zf_5_19, fun _ h => absurd h List.not_mem_nil⟩⟩⟩
theorem zf_6_11 : zFok 6 (11, 6, 0, 3, true) := ⟨zmr0 1146 rfl rfl, by decide, by decide, rfl, rfl, rfl⟩
theorem zf_6_16 : zFok 6 (16, 6, 1, 0, false) := ⟨zmr0 1147 rfl rfl, by decide, by decide, rfl, rfl, rfl⟩
theorem zf_6_20 : zFok 6 (20, 6, 2, 0, false) := ⟨zmr0 1148 rfl rfl, by decide, by decide, rfl, rfl, rfl⟩
theorem zFo6 : ∀ e ∈ zFT6, zFok 6 e := List.forall_mem_cons.mpr ⟨zf_6_11, List.forall_mem_cons.mpr ⟨zf_6_16, List.forall_mem_cons.mpr ⟨zf_6_20, fun _ h => absurd h List.not_mem_nil⟩⟩⟩
theorem zf_7_11 : zFok 7 (11, 7, 0, 3, true) := ⟨zmr0 1102 rfl rfl, by decide, by decide, rfl, rfl, rfl⟩
theorem zf_7_16 : zFok 7 (16, 7, 1, 3, true) := ⟨zmr0 1103 rfl rfl, by decide, by decide, rfl, rfl, rfl⟩
theorem zf_7_20 : zFok 7 (20, 7, 2, 3, true) := ⟨zmr0 1104 rfl rfl, by decide, by decide, rfl, rfl, rfl⟩
theorem zf_7_23 : zFok 7 (23, 7, 3, 3, true) := ⟨zmr0 1105 rfl rfl, by decide, by decide, rfl, rfl, rfl⟩
theorem zf_7_26 : zFok 7 (26, 7, 4, 3, true) := ⟨zmr0 1106 rfl rfl, by decide, by decide, rfl, rfl, rfl⟩
theorem zf_7_29 : zFok 7 (29, 7, 5, 3, true) := ⟨zmr0 1107 rfl rfl, by decide, by decide, rfl, rfl, rfl⟩
theorem zf_7_32 : zFok 7 (32, 7, 6, 3, true) := ⟨zmr0 1108 rfl rfl, by decide, by decide, rfl, rfl, rfl⟩
theorem zf_7_35 : zFok 7 (35, 7, 7, 3, true) := ⟨zmr0 1109 rfl rfl, by decide, by decide, rfl, rfl, rfl⟩
theorem zf_7_38 : zFok 7 (38, 7, 8, 0, false) := ⟨zmr0 1110 rfl rfl, by decide, by decide, rfl, rfl, rfl⟩
theorem zf_7_42 : zFok 7 (42, 7, 9, 0, false) := ⟨zmr0 1111 rfl rfl, by decide, by decide, rfl, rfl, rfl⟩
theorem zf_7_45 : zFok 7 (45, 7, 10, 0, false) := ⟨zmr0 1112 rfl rfl, by decide, by decide, rfl, rfl, rfl⟩
theorem zf_7_48 : zFok 7 (48, 7, 11, 0, false) := ⟨zmr0 1113 rfl rfl, by decide, by decide, rfl, rfl, rfl⟩
theorem zFo7 : ∀ e ∈ zFT7, zFok 7 e := List.forall_mem_cons.mpr ⟨zf_7_11, List.forall_mem_cons.mpr ⟨zf_7_16, List.forall_mem_cons.mpr ⟨zf_7_20, List.forall_mem_cons.mpr ⟨zf_7_23, List.forall_mem_cons.mpr ⟨zf_7_26, List.forall_mem_cons.mpr ⟨zf_7_29, List.forall_mem_cons.mpr ⟨zf_7_32, List.forall_mem_cons.mpr ⟨zf_7_35, List.forall_mem_cons.mpr ⟨zf_7_38, List.forall_mem_cons.mpr ⟨zf_7_42, List.forall_mem_cons.mpr ⟨zf_7_45, List.forall_mem_cons.mpr ⟨zf_7_48, fun _ h => absurd h List.not_mem_nil⟩⟩⟩⟩⟩⟩⟩⟩⟩⟩⟩⟩
theorem zf_8_9 : zFok 8 (9, 8, 0, 3, true) := ⟨zmr0 1028 rfl rfl, by decide, by decide, rfl, rfl, rfl⟩
theorem zf_8_15 : zFok 8 (15, 8, 1, 0, false) := ⟨zmr0 1029 rfl rfl, by decide, by decide, rfl, rfl, rfl⟩
theorem zFo8 : ∀ e ∈ zFT8, zFok 8 e := List.forall_mem_cons.mpr ⟨zf_8_9, List.forall_mem_cons.mpr ⟨zf_8_15, fun _ h => absurd h List.not_mem_nil⟩⟩
theorem zf_9_10 : zFok 9 (10, 9, 0, 3, true) := ⟨zmr0 1231 rfl rfl, by decide, by decide, rfl, rfl, rfl⟩
theorem zf_9_19 : zFok 9 (19, 9, 1, 3, true) := ⟨zmr0 1232 rfl rfl, by decide, by decide, rfl, rfl, rfl⟩
theorem zf_9_26 : zFok 9 (26, 9, 2, 3, true) := ⟨zmr0 1233 rfl rfl, by decide, by decide, rfl, rfl, rfl⟩
theorem zf_9_33 : zFok 9 (33, 9, 3, 3, true) := ⟨zmr0 1234 rfl rfl, by decide, by decide, rfl, rfl, rfl⟩
theorem zf_9_40 : zFok 9 (40, 9, 4, 3, true) := ⟨zmr0 1235 rfl rfl, by decide, by decide, rfl, rfl, rfl⟩
theorem zf_9_47 : zFok 9 (47, 9, 5, 3, true) := ⟨zmr0 1236 rfl rfl, by decide, by decide, rfl, rfl, rfl⟩
theorem zf_9_54 : zFok 9 (54, 9, 6, 3, true) := ⟨zmr0 1237 rfl rfl, by decide, by decide, rfl, rfl, rfl⟩
theorem zf_9_58 : zFok 9 (58, 9, 7, 0, false) := ⟨zmr0 1238 rfl rfl, by decide, by decide, rfl, rfl, rfl⟩
theorem zf_9_62 : zFok 9 (62, 9, 8, 0, false) := ⟨zmr0 1239 rfl rfl, by decide, by decide, rfl, rfl, rfl⟩
theorem zFo9 : ∀ e ∈ zFT9, zFok 9 e := List.forall_mem_cons.mpr ⟨zf_9_10, List.forall_mem_cons.mpr ⟨zf_9_19, List.forall_mem_cons.mpr ⟨zf_9_26, List.forall_mem_cons.mpr ⟨zf_9_33, List.forall_mem_cons.mpr ⟨zf_9_40, List.forall_mem_cons.mpr ⟨zf_9_47, List.forall_mem_cons.mpr ⟨zf_9_54, List.forall_mem_cons.mpr ⟨zf_9_58, List.forall_mem_cons.mpr ⟨zf_9_62, fun _ h => absurd h List.not_mem_nil⟩⟩⟩⟩⟩⟩⟩⟩⟩
theorem zf_10_7 : zFok 10 (7, 10, 1, 3, true) := ⟨zmr0 4088 rfl rfl, by decide, by decide, rfl, rfl, rfl⟩
theorem zf_10_13 : zFok 10 (13, 10, 3, 3, true) := ⟨zmr0 4090 rfl rfl, by decide, by decide, rfl, rfl, rfl⟩
theorem zf_10_16 : zFok 10 (16, 10, 4, 3, true) := ⟨zmr0 4091 rfl rfl, by decide, by decide, rfl, rfl, rfl⟩
theorem zf_10_19 : zFok 10 (19, 10, 5, 0, false) := ⟨zmr0 4092 rfl rfl, by decide, by decide, rfl, rfl, rfl⟩
theorem zf_10_23 : zFok 10 (23, 10, 8, 3, true) := ⟨zmr0 4095 rfl rfl, by decide, by decide, rfl, rfl, rfl⟩
theorem zf_10_26 : zFok 10 (26, 10, 9, 3, true) := ⟨zmr0 4096 rfl rfl, by decide, by decide, rfl, rfl, rfl⟩
theorem zf_10_29 : zFok 10 (29, 10, 10, 3, true) := ⟨zmr0 4097 rfl rfl, by decide, by decide, rfl, rfl, rfl⟩
theorem zf_10_32 : zFok 10 (32, 10, 11, 3, true) := ⟨zmr0 4098 rfl rfl, by decide, by decide, rfl, rfl, rfl⟩
theorem zf_10_35 : zFok 10 (35, 10, 13, 3, true) := ⟨zmr0 4100 rfl rfl, by decide, by decide, rfl, rfl, rfl⟩
theorem zf_10_38 : zFok 10 (38, 10, 15, 3, true) := ⟨zmr0 4102 rfl rfl, by decide, by decide, rfl, rfl, rfl⟩
theorem zf_10_41 : zFok 10 (41, 10, 18, 3, true) := ⟨zmr0 4105 rfl rfl, by decide, by decide, rfl, rfl, rfl⟩
theorem zf_10_44 : zFok 10 (44, 10, 19, 3, true) := ⟨zmr0 4106 rfl rfl, by decide, by decide, rfl, rfl, rfl⟩
theorem zf_10_48 : zFok 10 (48, 10, 21, 3, true) := ⟨zmr0 4108 rfl rfl, by decide, by decide, rfl, rfl, rfl⟩
theorem zf_10_51 : zFok 10 (51, 10, 22, 3, true) := ⟨zmr0 4109 rfl rfl, by decide, by decide, rfl, rfl, rfl⟩
theorem zf_10_54 : zFok 10 (54, 10, 23, 3, true) := ⟨zmr0 4110 rfl rfl, by decide, by decide, rfl, rfl, rfl⟩
theorem zf_10_57 : zFok 10 (57, 10, 24, 3, true) := ⟨zmr0 4111 rfl rfl, by decide, by decide, rfl, rfl, rfl⟩
theorem zf_10_60 : zFok 10 (60, 10, 26, 3, true) := ⟨zmr0 4113 rfl rfl, by decide, by decide, rfl, rfl, rfl⟩
theorem zf_10_63 : zFok 10 (63, 10, 27, 3, true) := ⟨zmr0 4114 rfl rfl, by decide, by decide, rfl, rfl, rfl⟩
theorem zf_10_66 : zFok 10 (66, 10, 29, 3, true) := ⟨zmr0 4116 rfl rfl, by decide, by decide, rfl, rfl, rfl⟩
theorem zf_10_69 : zFok 10 (69, 10, 30, 3, true) := ⟨zmr0 4117 rfl rfl, by decide, by decide, rfl, rfl, rfl⟩
theorem zf_10_76 : zFok 10 (76, 10, 0, 0, false) := ⟨zmr0 4087 rfl rfl, by decide, by decide, rfl, rfl, rfl⟩
theorem zf_10_79 : zFok 10 (79, 10, 6, 0, false) := ⟨zmr0 4093 rfl rfl, by decide, by decide, rfl, rfl, rfl⟩
theorem zf_10_86 : zFok 10 (86, 10, 2, 0, false) := ⟨zmr0 4089 rfl rfl, by decide, by decide, rfl, rfl, rfl⟩
theorem zf_10_101 : zFok 10 (101, 10, 16, 0, false) := ⟨zmr0 4103 rfl rfl, by decide, by decide, rfl, rfl, rfl⟩
theorem zf_10_104 : zFok 10 (104, 10, 17, 0, false) := ⟨zmr0 4104 rfl rfl, by decide, by decide, rfl, rfl, rfl⟩
theorem zf_10_122 : zFok 10 (122, 10, 14, 0, false) := ⟨zmr0 4101 rfl rfl, by decide, by decide, rfl, rfl, rfl⟩
theorem zf_10_148 : zFok 10 (148, 10, 20, 0, false) := ⟨zmr0 4107 rfl rfl, by decide, by decide, rfl, rfl, rfl⟩
theorem zf_10_215 : zFok 10 (215, 10, 7, 0, false) := ⟨zmr0 4094 rfl rfl, by decide, by decide, rfl, rfl, rfl⟩
theorem zf_10_224 : zFok 10 (224, 10, 12, 0, false) := ⟨zmr0 4099 rfl rfl, by decide, by decide, rfl, rfl, rfl⟩
theorem zf_10_230 : zFok 10 (230, 10, 25, 0, false) := ⟨zmr0 4112 rfl rfl, by decide, by decide, rfl, rfl, rfl⟩
theorem zf_10_272 : zFok 10 (272, 10, 28, 0, false) := ⟨zmr0 4115 rfl rfl, by decide, by decide, rfl, rfl, rfl⟩
theorem zf_10_310 : zFok 10 (310, 10, 31, 2, false) := ⟨zmr0 4118 rfl rfl, by decide, by decide, rfl, rfl, rfl⟩
theorem zFo10 : ∀ e ∈ zFT10, zFok 10 e := List.forall_mem_cons.mpr ⟨zf_10_7, List.forall_mem_cons.mpr ⟨zf_10_13, List.forall_mem_cons.mpr ⟨zf_10_16, List.forall_mem_cons.mpr ⟨zf_10_19, List.forall_mem_cons.mpr ⟨zf_10_23, List.forall_mem_cons.mpr ⟨zf_10_26, List.forall_mem_cons.mpr ⟨zf_10_29, List.forall_mem_cons.mpr ⟨zf_10_32, List.forall_mem_cons.mpr ⟨zf_10_35, List.forall_mem_cons.mpr ⟨zf_10_38, List.forall_mem_cons.mpr ⟨zf_10_41, List.forall_mem_cons.mpr ⟨zf_10_44, List.forall_mem_cons.mpr ⟨zf_10_48, List.forall_mem_cons.mpr ⟨zf_10_51, List.forall_mem_cons.mpr ⟨zf_10_54, List.forall_mem_cons.mpr ⟨zf_10_57, List.forall_mem_cons.mpr ⟨zf_10_60, List.forall_mem_cons.mpr ⟨zf_10_63, List.forall_mem_cons.mpr ⟨zf_10_66, List.forall_mem_cons.mpr ⟨zf_10_69, List.forall_mem_cons.mpr ⟨zf_10_76, List.forall_mem_cons.mpr ⟨zf_10_79, List.forall_mem_cons.mpr ⟨zf_10_86, List.forall_mem_cons.mpr ⟨zf_10_101, List.forall_mem_cons.mpr ⟨zf_10_104, List.forall_mem_cons.mpr ⟨zf_10_122, List.forall_mem_cons.mpr ⟨zf_10_148, List.forall_mem_cons.mpr ⟨zf_10_215, List.forall_mem_cons.mpr ⟨zf_10_224, List.forall_mem_cons.mpr ⟨zf_10_230, List.forall_mem_cons.mpr ⟨zf_10_272, List.forall_mem_cons.mpr ⟨zf_10_310, fun _ h => absurd h List.not_mem_nil⟩⟩⟩⟩⟩⟩⟩⟩⟩⟩⟩⟩⟩⟩⟩⟩⟩⟩⟩⟩⟩⟩⟩⟩⟩⟩⟩⟩⟩⟩⟩⟩
theorem zFo11 : ∀ e ∈ zFT11, zFok 11 e := fun _ h => absurd h List.not_mem_nil
theorem zFo12 : ∀ e ∈ zFT12, zFok 12 e := fun _ h => absurd h List.not_mem_nil
theorem zFo13 : ∀ e ∈ zFT13, zFok 13 e := fun _ h => absurd h List.not_mem_nil
theorem zFld_ok {c i C k t : Nat} {fin : Bool} (h : zFld c i = some (C, k, t, fin)) : zFok c (i, C, k, t, fin) := by
  unfold zFld at h
  obtain ⟨e, he, h2⟩ := Option.map_eq_some_iff.mp h
  have hm := List.mem_of_find?_eq_some he
  have hi : e.1 = i := by have := List.find?_some he; simpa using this
  have hee : e = (i, C, k, t, fin) := by rw [← hi, ← h2]
  rw [hee] at hm
  match c, hm with
  | 0, hm => exact zFo0 _ hm
  | 1, hm => exact zFo1 _ hm
  | 2, hm => exact zFo2 _ hm
  | 3, hm => exact zFo3 _ hm
  | 4, hm => exact zFo4 _ hm
  | 5, hm => exact zFo5 _ hm
  | 6, hm => exact zFo6 _ hm
  | 7, hm => exact zFo7 _ hm
  | 8, hm => exact zFo8 _ hm
  | 9, hm => exact zFo9 _ hm
  | 10, hm => exact zFo10 _ hm
  | 11, hm => exact zFo11 _ hm
  | 12, hm => exact zFo12 _ hm
  | 13, hm => exact zFo13 _ hm
  | c + 14, hm => exact absurd hm List.not_mem_nil
theorem zmr (p : Nat) {w : Cond} (h : zPl p = some w) (hg : goodWord w = true) : w ∈ zGW := List.mem_filter.mpr ⟨zPl_in h, hg⟩
def zMok (m : zD) (np : Nat) : Prop := Cond.code m.2.1 m.2.2.1 m.2.2.2.1 m.2.2.2.2 ∈ zGW ∧ Cond.initialized m.2.1.cls ∈ zGW ∧ m.2.1.cls = zCn m.1 ∧ (parseMethodDescriptor m.2.1.desc).map (fun d => d.parameters.length) = some np ∧ (m.2.1.cls ≠ "java/lang/invoke/MethodHandle" ∧ m.2.1.cls ≠ "java/lang/invoke/VarHandle") ∧ plainName m.2.1.cls = true ∧ m.2.2.2.1 ≤ 23
/-- a row of the table of calls -/
def zCok (c : Nat) (e : Nat × Nat × Nat × zD) : Prop := zMok e.2.2.2 e.2.2.1 ∧
  (e.2.1 = 0 → Cond.methodLink (zCn c) e.1 e.2.2.2.2.1 ∈ zGW ∧ Cond.instanceMethod e.2.2.2.2.1 ∈ zGW ∧ Cond.selects e.2.2.2.2.1.cls e.2.2.2.2.1 e.2.2.2.2.1 ∈ zGW ∧ e.2.2.2.1 < 11) ∧
  (e.2.1 = 1 → Cond.methodLink (zCn c) e.1 e.2.2.2.2.1 ∈ zGW ∧ Cond.static e.2.2.2.2.1 ∈ zGW) ∧
  (e.2.1 = 2 → Cond.methodLink (zCn c) e.1 e.2.2.2.2.1 ∈ zGW ∧ Cond.instanceMethod e.2.2.2.2.1 ∈ zGW ∧ e.2.2.2.2.1.name = "<init>" ∧ e.2.2.2.2.2.2.2 = none) ∧
  (e.2.1 = 3 → Cond.methodLinkNest (zCn c) e.1 e.2.2.2.2.1 "StopPress" ∈ zNW ∧ Cond.instanceMethod e.2.2.2.2.1 ∈ zGW ∧ e.2.2.2.2.1.name = "<init>" ∧ e.2.2.2.2.2.2.2 = none)
theorem zo_zm_Text_size : zMok zm_Text_size 0 := ⟨zmr 2026 rfl rfl, zmr 1002 rfl rfl, rfl, by decide +kernel, by decide +kernel, by decide +kernel, by decide⟩
theorem zo_zm_Alignment_begin : zMok zm_Alignment_begin 1 := ⟨zmr 2141 rfl rfl, zmr 1005 rfl rfl, rfl, by decide +kernel, by decide +kernel, by decide +kernel, by decide⟩
theorem zo_zm_Aligner_fill : zMok zm_Aligner_fill 3 := ⟨zmr 2145 rfl rfl, zmr 1004 rfl rfl, rfl, by decide +kernel, by decide +kernel, by decide +kernel, by decide⟩
theorem zo_zm_Aligner_trace : zMok zm_Aligner_trace 3 := ⟨zmr 2161 rfl rfl, zmr 1004 rfl rfl, rfl, by decide +kernel, by decide +kernel, by decide +kernel, by decide⟩
theorem zo_zm_Text_at : zMok zm_Text_at 1 := ⟨zmr 2066 rfl rfl, zmr 1002 rfl rfl, rfl, by decide +kernel, by decide +kernel, by decide +kernel, by decide⟩
theorem zo_zm_Aligner_kindOfPair : zMok zm_Aligner_kindOfPair 2 := ⟨zmr 2150 rfl rfl, zmr 1004 rfl rfl, rfl, by decide +kernel, by decide +kernel, by decide +kernel, by decide⟩
theorem zo_zm_Alignment_add : zMok zm_Alignment_add 1 := ⟨zmr 2165 rfl rfl, zmr 1005 rfl rfl, rfl, by decide +kernel, by decide +kernel, by decide +kernel, by decide⟩
theorem zo_zm_Alignment_length : zMok zm_Alignment_length 0 := ⟨zmr 2180 rfl rfl, zmr 1005 rfl rfl, rfl, by decide +kernel, by decide +kernel, by decide +kernel, by decide⟩
theorem zo_zm_Alignment_hasStep : zMok zm_Alignment_hasStep 1 := ⟨zmr 2188 rfl rfl, zmr 1005 rfl rfl, rfl, by decide +kernel, by decide +kernel, by decide +kernel, by decide⟩
theorem zo_zm_Sight_changes : zMok zm_Sight_changes 0 := ⟨zmr 3146 rfl rfl, zmr 1007 rfl rfl, rfl, by decide +kernel, by decide +kernel, by decide +kernel, by decide⟩
theorem zo_zm_Sight_size : zMok zm_Sight_size 0 := ⟨zmr 3105 rfl rfl, zmr 1007 rfl rfl, rfl, by decide +kernel, by decide +kernel, by decide +kernel, by decide⟩
theorem zo_zm_Chrono_enter : zMok zm_Chrono_enter 2 := ⟨zmr 3151 rfl rfl, zmr 1008 rfl rfl, rfl, by decide +kernel, by decide +kernel, by decide +kernel, by decide⟩
theorem zo_zm_Chrono_findCompanions : zMok zm_Chrono_findCompanions 1 := ⟨zmr 3160 rfl rfl, zmr 1008 rfl rfl, rfl, by decide +kernel, by decide +kernel, by decide +kernel, by decide⟩
theorem zo_zm_Chrono_countOrders : zMok zm_Chrono_countOrders 0 := ⟨zmr 3164 rfl rfl, zmr 1008 rfl rfl, rfl, by decide +kernel, by decide +kernel, by decide +kernel, by decide⟩
theorem zo_zm_Chrono_findFirst : zMok zm_Chrono_findFirst 0 := ⟨zmr 3168 rfl rfl, zmr 1008 rfl rfl, rfl, by decide +kernel, by decide +kernel, by decide +kernel, by decide⟩
theorem zo_zm_Sight_get : zMok zm_Sight_get 2 := ⟨zmr 3130 rfl rfl, zmr 1007 rfl rfl, rfl, by decide +kernel, by decide +kernel, by decide +kernel, by decide⟩
theorem zo_zm_Sight_isLessWorn : zMok zm_Sight_isLessWorn 2 := ⟨zmr 3156 rfl rfl, zmr 1007 rfl rfl, rfl, by decide +kernel, by decide +kernel, by decide +kernel, by decide⟩
theorem zo_zm_Chrono_firstFree : zMok zm_Chrono_firstFree 1 := ⟨zmr 3172 rfl rfl, zmr 1008 rfl rfl, rfl, by decide +kernel, by decide +kernel, by decide +kernel, by decide⟩
theorem zo_zm_Int_numberOfTrailingZeros : zMok zm_Int_numberOfTrailingZeros 1 := ⟨zmr 3175 rfl rfl, zmr 1013 rfl rfl, rfl, by decide +kernel, by decide +kernel, by decide +kernel, by decide⟩
theorem zo_zm_Int_bitCount : zMok zm_Int_bitCount 1 := ⟨zmr 3060 rfl rfl, zmr 1013 rfl rfl, rfl, by decide +kernel, by decide +kernel, by decide +kernel, by decide⟩
theorem zo_zm_Chrono_orderLength : zMok zm_Chrono_orderLength 0 := ⟨zmr 3197 rfl rfl, zmr 1008 rfl rfl, rfl, by decide +kernel, by decide +kernel, by decide +kernel, by decide⟩
theorem zo_zm_Chrono_hasPlace : zMok zm_Chrono_hasPlace 1 := ⟨zmr 4039 rfl rfl, zmr 1008 rfl rfl, rfl, by decide +kernel, by decide +kernel, by decide +kernel, by decide⟩
theorem zo_zm_Aligner_init : zMok zm_Aligner_init 0 := ⟨zmr 1050 rfl rfl, zmr 1004 rfl rfl, rfl, by decide +kernel, by decide +kernel, by decide +kernel, by decide⟩
theorem zo_zm_Text_init : zMok zm_Text_init 0 := ⟨zmr 1026 rfl rfl, zmr 1002 rfl rfl, rfl, by decide +kernel, by decide +kernel, by decide +kernel, by decide⟩
theorem zo_zm_Alignment_init : zMok zm_Alignment_init 0 := ⟨zmr 1060 rfl rfl, zmr 1005 rfl rfl, rfl, by decide +kernel, by decide +kernel, by decide +kernel, by decide⟩
theorem zo_zm_Coll_has : zMok zm_Coll_has 1 := ⟨zmr 2079 rfl rfl, zmr 1003 rfl rfl, rfl, by decide +kernel, by decide +kernel, by decide +kernel, by decide⟩
theorem zo_zm_Text_takeFrom : zMok zm_Text_takeFrom 1 := ⟨zmr 2061 rfl rfl, zmr 1002 rfl rfl, rfl, by decide +kernel, by decide +kernel, by decide +kernel, by decide⟩
theorem zo_zm_Alignment_forget : zMok zm_Alignment_forget 0 := ⟨zmr 2071 rfl rfl, zmr 1005 rfl rfl, rfl, by decide +kernel, by decide +kernel, by decide +kernel, by decide⟩
theorem zo_zm_Text_clear : zMok zm_Text_clear 0 := ⟨zmr 2038 rfl rfl, zmr 1002 rfl rfl, rfl, by decide +kernel, by decide +kernel, by decide +kernel, by decide⟩
theorem zo_zm_Alignment_isKnown : zMok zm_Alignment_isKnown 0 := ⟨zmr 2128 rfl rfl, zmr 1005 rfl rfl, rfl, by decide +kernel, by decide +kernel, by decide +kernel, by decide⟩
theorem zo_zm_Coll_text : zMok zm_Coll_text 1 := ⟨zmr 2083 rfl rfl, zmr 1003 rfl rfl, rfl, by decide +kernel, by decide +kernel, by decide +kernel, by decide⟩
theorem zo_zm_Aligner_align : zMok zm_Aligner_align 4 := ⟨zmr 2133 rfl rfl, zmr 1004 rfl rfl, rfl, by decide +kernel, by decide +kernel, by decide +kernel, by decide⟩
theorem zo_zm_Fault_findPairs : zMok zm_Fault_findPairs 1 := ⟨zmr 4003 rfl rfl, zmr 1009 rfl rfl, rfl, by decide +kernel, by decide +kernel, by decide +kernel, by decide⟩
theorem zo_zm_Fault_search : zMok zm_Fault_search 1 := ⟨zmr 4010 rfl rfl, zmr 1009 rfl rfl, rfl, by decide +kernel, by decide +kernel, by decide +kernel, by decide⟩
theorem zo_zm_Fault_hasOrderWithout : zMok zm_Fault_hasOrderWithout 1 := ⟨zmr 4015 rfl rfl, zmr 1009 rfl rfl, rfl, by decide +kernel, by decide +kernel, by decide +kernel, by decide⟩
theorem zo_zm_Fault_hasNoCycle : zMok zm_Fault_hasNoCycle 0 := ⟨zmr 4019 rfl rfl, zmr 1009 rfl rfl, rfl, by decide +kernel, by decide +kernel, by decide +kernel, by decide⟩
theorem zo_zm_Chrono_builtFor : zMok zm_Chrono_builtFor 0 := ⟨zmr 3206 rfl rfl, zmr 1008 rfl rfl, rfl, by decide +kernel, by decide +kernel, by decide +kernel, by decide⟩
theorem zo_zm_Presses_assign : zMok zm_Presses_assign 4 := ⟨zmr 3209 rfl rfl, zmr 1010 rfl rfl, rfl, by decide +kernel, by decide +kernel, by decide +kernel, by decide⟩
theorem zo_zm_Chrono_typesOn : zMok zm_Chrono_typesOn 1 := ⟨zmr 3180 rfl rfl, zmr 1008 rfl rfl, rfl, by decide +kernel, by decide +kernel, by decide +kernel, by decide⟩
theorem zo_zm_Presses_fits : zMok zm_Presses_fits 3 := ⟨zmr 3213 rfl rfl, zmr 1010 rfl rfl, rfl, by decide +kernel, by decide +kernel, by decide +kernel, by decide⟩
theorem zo_zm_Chrono_companionsOf : zMok zm_Chrono_companionsOf 1 := ⟨zmr 3189 rfl rfl, zmr 1008 rfl rfl, rfl, by decide +kernel, by decide +kernel, by decide +kernel, by decide⟩
theorem zo_zm_Sight_has : zMok zm_Sight_has 1 := ⟨zmr 3117 rfl rfl, zmr 1007 rfl rfl, rfl, by decide +kernel, by decide +kernel, by decide +kernel, by decide⟩
theorem zo_zm_Coll_changes : zMok zm_Coll_changes 0 := ⟨zmr 2117 rfl rfl, zmr 1003 rfl rfl, rfl, by decide +kernel, by decide +kernel, by decide +kernel, by decide⟩
theorem zo_zm_Coll_size : zMok zm_Coll_size 0 := ⟨zmr 2050 rfl rfl, zmr 1003 rfl rfl, rfl, by decide +kernel, by decide +kernel, by decide +kernel, by decide⟩
theorem zo_zm_Coll_best : zMok zm_Coll_best 2 := ⟨zmr 2124 rfl rfl, zmr 1003 rfl rfl, rfl, by decide +kernel, by decide +kernel, by decide +kernel, by decide⟩
theorem zo_zm_Alignment_isFound : zMok zm_Alignment_isFound 0 := ⟨zmr 2172 rfl rfl, zmr 1005 rfl rfl, rfl, by decide +kernel, by decide +kernel, by decide +kernel, by decide⟩
theorem zo_zm_Stemma_read : zMok zm_Stemma_read 3 := ⟨zmr 2176 rfl rfl, zmr 1006 rfl rfl, rfl, by decide +kernel, by decide +kernel, by decide +kernel, by decide⟩
theorem zo_zm_Stemma_group : zMok zm_Stemma_group 1 := ⟨zmr 2194 rfl rfl, zmr 1006 rfl rfl, rfl, by decide +kernel, by decide +kernel, by decide +kernel, by decide⟩
theorem zo_zm_Stemma_connect : zMok zm_Stemma_connect 0 := ⟨zmr 2206 rfl rfl, zmr 1006 rfl rfl, rfl, by decide +kernel, by decide +kernel, by decide +kernel, by decide⟩
theorem zo_zm_Stemma_findReverted : zMok zm_Stemma_findReverted 0 := ⟨zmr 2222 rfl rfl, zmr 1006 rfl rfl, rfl, by decide +kernel, by decide +kernel, by decide +kernel, by decide⟩
theorem zo_zm_Alignment_stepAt : zMok zm_Alignment_stepAt 1 := ⟨zmr 2184 rfl rfl, zmr 1005 rfl rfl, rfl, by decide +kernel, by decide +kernel, by decide +kernel, by decide⟩
theorem zo_zm_Stemma_differences : zMok zm_Stemma_differences 2 := ⟨zmr 2198 rfl rfl, zmr 1006 rfl rfl, rfl, by decide +kernel, by decide +kernel, by decide +kernel, by decide⟩
theorem zo_zm_Stemma_joinNearest : zMok zm_Stemma_joinNearest 1 := ⟨zmr 2210 rfl rfl, zmr 1006 rfl rfl, rfl, by decide +kernel, by decide +kernel, by decide +kernel, by decide⟩
theorem zo_zm_Stemma_distance : zMok zm_Stemma_distance 2 := ⟨zmr 2214 rfl rfl, zmr 1006 rfl rfl, rfl, by decide +kernel, by decide +kernel, by decide +kernel, by decide⟩
theorem zo_zm_Stemma_goesBack : zMok zm_Stemma_goesBack 2 := ⟨zmr 2226 rfl rfl, zmr 1006 rfl rfl, rfl, by decide +kernel, by decide +kernel, by decide +kernel, by decide⟩
theorem zo_zm_Stemma_readingOfState : zMok zm_Stemma_readingOfState 2 := ⟨zmr 2230 rfl rfl, zmr 1006 rfl rfl, rfl, by decide +kernel, by decide +kernel, by decide +kernel, by decide⟩
theorem zo_zm_Stemma_parentOf : zMok zm_Stemma_parentOf 1 := ⟨zmr 2234 rfl rfl, zmr 1006 rfl rfl, rfl, by decide +kernel, by decide +kernel, by decide +kernel, by decide⟩
theorem zo_zm_Stemma_stateOfCopy : zMok zm_Stemma_stateOfCopy 1 := ⟨zmr 3006 rfl rfl, zmr 1006 rfl rfl, rfl, by decide +kernel, by decide +kernel, by decide +kernel, by decide⟩
theorem zo_zm_Stemma_readingAt : zMok zm_Stemma_readingAt 2 := ⟨zmr 2202 rfl rfl, zmr 1006 rfl rfl, rfl, by decide +kernel, by decide +kernel, by decide +kernel, by decide⟩
theorem zo_zm_Stemma_has : zMok zm_Stemma_has 1 := ⟨zmr 2218 rfl rfl, zmr 1006 rfl rfl, rfl, by decide +kernel, by decide +kernel, by decide +kernel, by decide⟩
theorem zo_zm_Stemma_ancestors : zMok zm_Stemma_ancestors 1 := ⟨zmr 3080 rfl rfl, zmr 1006 rfl rfl, rfl, by decide +kernel, by decide +kernel, by decide +kernel, by decide⟩
theorem zo_zm_Stemma_length : zMok zm_Stemma_length 0 := ⟨zmr 3049 rfl rfl, zmr 1006 rfl rfl, rfl, by decide +kernel, by decide +kernel, by decide +kernel, by decide⟩
theorem zo_zm_Stemma_variedPlaces : zMok zm_Stemma_variedPlaces 0 := ⟨zmr 3053 rfl rfl, zmr 1006 rfl rfl, rfl, by decide +kernel, by decide +kernel, by decide +kernel, by decide⟩
theorem zo_zm_Stemma_reversions : zMok zm_Stemma_reversions 0 := ⟨zmr 3057 rfl rfl, zmr 1006 rfl rfl, rfl, by decide +kernel, by decide +kernel, by decide +kernel, by decide⟩
theorem zo_zm_Stemma_leaves : zMok zm_Stemma_leaves 0 := ⟨zmr 3067 rfl rfl, zmr 1006 rfl rfl, rfl, by decide +kernel, by decide +kernel, by decide +kernel, by decide⟩
theorem zo_zm_Text_append : zMok zm_Text_append 1 := ⟨zmr 2030 rfl rfl, zmr 1002 rfl rfl, rfl, by decide +kernel, by decide +kernel, by decide +kernel, by decide⟩
theorem zo_zm_Coll_init : zMok zm_Coll_init 0 := ⟨zmr 1040 rfl rfl, zmr 1003 rfl rfl, rfl, by decide +kernel, by decide +kernel, by decide +kernel, by decide⟩
theorem zo_zm_Stemma_init : zMok zm_Stemma_init 0 := ⟨zmr 1098 rfl rfl, zmr 1006 rfl rfl, rfl, by decide +kernel, by decide +kernel, by decide +kernel, by decide⟩
theorem zo_zm_Sight_init : zMok zm_Sight_init 0 := ⟨zmr 1143 rfl rfl, zmr 1007 rfl rfl, rfl, by decide +kernel, by decide +kernel, by decide +kernel, by decide⟩
theorem zo_zm_Chrono_init : zMok zm_Chrono_init 0 := ⟨zmr 1160 rfl rfl, zmr 1008 rfl rfl, rfl, by decide +kernel, by decide +kernel, by decide +kernel, by decide⟩
theorem zo_zm_Fault_init : zMok zm_Fault_init 0 := ⟨zmr 1191 rfl rfl, zmr 1009 rfl rfl, rfl, by decide +kernel, by decide +kernel, by decide +kernel, by decide⟩
theorem zo_zm_Presses_init : zMok zm_Presses_init 0 := ⟨zmr 1219 rfl rfl, zmr 1010 rfl rfl, rfl, by decide +kernel, by decide +kernel, by decide +kernel, by decide⟩
theorem zo_zm_Text_isWord : zMok zm_Text_isWord 0 := ⟨zmr 2046 rfl rfl, zmr 1002 rfl rfl, rfl, by decide +kernel, by decide +kernel, by decide +kernel, by decide⟩
theorem zo_zm_Coll_put : zMok zm_Coll_put 2 := ⟨zmr 2054 rfl rfl, zmr 1003 rfl rfl, rfl, by decide +kernel, by decide +kernel, by decide +kernel, by decide⟩
theorem zo_zm_Coll_removeLast : zMok zm_Coll_removeLast 0 := ⟨zmr 2092 rfl rfl, zmr 1003 rfl rfl, rfl, by decide +kernel, by decide +kernel, by decide +kernel, by decide⟩
theorem zo_zm_Coll_reach : zMok zm_Coll_reach 0 := ⟨zmr 2101 rfl rfl, zmr 1003 rfl rfl, rfl, by decide +kernel, by decide +kernel, by decide +kernel, by decide⟩
theorem zo_zm_Coll_setReach : zMok zm_Coll_setReach 1 := ⟨zmr 2105 rfl rfl, zmr 1003 rfl rfl, rfl, by decide +kernel, by decide +kernel, by decide +kernel, by decide⟩
theorem zo_zm_Stemma_build : zMok zm_Stemma_build 1 := ⟨zmr 2113 rfl rfl, zmr 1006 rfl rfl, rfl, by decide +kernel, by decide +kernel, by decide +kernel, by decide⟩
theorem zo_zm_P_describeCopy : zMok zm_P_describeCopy 2 := ⟨zmr 2238 rfl rfl, zmr 1001 rfl rfl, rfl, by decide +kernel, by decide +kernel, by decide +kernel, by decide⟩
theorem zo_zm_Text_has : zMok zm_Text_has 1 := ⟨zmr 3021 rfl rfl, zmr 1002 rfl rfl, rfl, by decide +kernel, by decide +kernel, by decide +kernel, by decide⟩
theorem zo_zm_Alignment_tally : zMok zm_Alignment_tally 1 := ⟨zmr 3012 rfl rfl, zmr 1005 rfl rfl, rfl, by decide +kernel, by decide +kernel, by decide +kernel, by decide⟩
theorem zo_zm_Stemma_isExcluded : zMok zm_Stemma_isExcluded 1 := ⟨zmr 3002 rfl rfl, zmr 1006 rfl rfl, rfl, by decide +kernel, by decide +kernel, by decide +kernel, by decide⟩
theorem zo_zm_Stemma_describeAll : zMok zm_Stemma_describeAll 1 := ⟨zmr 3045 rfl rfl, zmr 1006 rfl rfl, rfl, by decide +kernel, by decide +kernel, by decide +kernel, by decide⟩
theorem zo_zm_Stemma_describe : zMok zm_Stemma_describe 2 := ⟨zmr 3076 rfl rfl, zmr 1006 rfl rfl, rfl, by decide +kernel, by decide +kernel, by decide +kernel, by decide⟩
theorem zo_zm_Stemma_isReverted : zMok zm_Stemma_isReverted 2 := ⟨zmr 3093 rfl rfl, zmr 1006 rfl rfl, rfl, by decide +kernel, by decide +kernel, by decide +kernel, by decide⟩
theorem zo_zm_Sight_clash : zMok zm_Sight_clash 3 := ⟨zmr 3101 rfl rfl, zmr 1007 rfl rfl, rfl, by decide +kernel, by decide +kernel, by decide +kernel, by decide⟩
theorem zo_zm_Sight_add : zMok zm_Sight_add 4 := ⟨zmr 3109 rfl rfl, zmr 1007 rfl rfl, rfl, by decide +kernel, by decide +kernel, by decide +kernel, by decide⟩
theorem zo_zm_Sight_remove : zMok zm_Sight_remove 1 := ⟨zmr 3121 rfl rfl, zmr 1007 rfl rfl, rfl, by decide +kernel, by decide +kernel, by decide +kernel, by decide⟩
theorem zo_zm_P_describeForme : zMok zm_P_describeForme 2 := ⟨zmr 3138 rfl rfl, zmr 1001 rfl rfl, rfl, by decide +kernel, by decide +kernel, by decide +kernel, by decide⟩
theorem zo_zm_P_describeFormes : zMok zm_P_describeFormes 1 := ⟨zmr 3226 rfl rfl, zmr 1001 rfl rfl, rfl, by decide +kernel, by decide +kernel, by decide +kernel, by decide⟩
theorem zo_zm_Chrono_build : zMok zm_Chrono_build 1 := ⟨zmr 3142 rfl rfl, zmr 1008 rfl rfl, rfl, by decide +kernel, by decide +kernel, by decide +kernel, by decide⟩
theorem zo_zm_Chrono_formeAt : zMok zm_Chrono_formeAt 1 := ⟨zmr 4043 rfl rfl, zmr 1008 rfl rfl, rfl, by decide +kernel, by decide +kernel, by decide +kernel, by decide⟩
theorem zo_zm_P_hashCopies : zMok zm_P_hashCopies 1 := ⟨zmr 4057 rfl rfl, zmr 1001 rfl rfl, rfl, by decide +kernel, by decide +kernel, by decide +kernel, by decide⟩
theorem zo_zm_P_hashPairs : zMok zm_P_hashPairs 1 := ⟨zmr 4062 rfl rfl, zmr 1001 rfl rfl, rfl, by decide +kernel, by decide +kernel, by decide +kernel, by decide⟩
theorem zo_zm_P_hashStates : zMok zm_P_hashStates 1 := ⟨zmr 4066 rfl rfl, zmr 1001 rfl rfl, rfl, by decide +kernel, by decide +kernel, by decide +kernel, by decide⟩
theorem zo_zm_P_hashSightings : zMok zm_P_hashSightings 1 := ⟨zmr 4074 rfl rfl, zmr 1001 rfl rfl, rfl, by decide +kernel, by decide +kernel, by decide +kernel, by decide⟩
theorem zo_zm_P_hashFormes : zMok zm_P_hashFormes 1 := ⟨zmr 4078 rfl rfl, zmr 1001 rfl rfl, rfl, by decide +kernel, by decide +kernel, by decide +kernel, by decide⟩
theorem zo_zm_P_count : zMok zm_P_count 1 := ⟨zmr 4048 rfl rfl, zmr 1001 rfl rfl, rfl, by decide +kernel, by decide +kernel, by decide +kernel, by decide⟩
theorem zo_zm_Stemma_size : zMok zm_Stemma_size 0 := ⟨zmr 4070 rfl rfl, zmr 1006 rfl rfl, rfl, by decide +kernel, by decide +kernel, by decide +kernel, by decide⟩
theorem zo_zm_Chrono_aheadOf : zMok zm_Chrono_aheadOf 1 := ⟨zmr 3185 rfl rfl, zmr 1008 rfl rfl, rfl, by decide +kernel, by decide +kernel, by decide +kernel, by decide⟩
theorem zo_zm_Chrono_placeOf : zMok zm_Chrono_placeOf 1 := ⟨zmr 3193 rfl rfl, zmr 1008 rfl rfl, rfl, by decide +kernel, by decide +kernel, by decide +kernel, by decide⟩
theorem zo_zm_Presses_build : zMok zm_Presses_build 1 := ⟨zmr 3202 rfl rfl, zmr 1010 rfl rfl, rfl, by decide +kernel, by decide +kernel, by decide +kernel, by decide⟩
theorem zo_zm_Presses_pressOf : zMok zm_Presses_pressOf 1 := ⟨zmr 3218 rfl rfl, zmr 1010 rfl rfl, rfl, by decide +kernel, by decide +kernel, by decide +kernel, by decide⟩
theorem zo_zm_Chrono_seenSet : zMok zm_Chrono_seenSet 0 := ⟨zmr 3230 rfl rfl, zmr 1008 rfl rfl, rfl, by decide +kernel, by decide +kernel, by decide +kernel, by decide⟩
theorem zo_zm_Chrono_orders : zMok zm_Chrono_orders 0 := ⟨zmr 3234 rfl rfl, zmr 1008 rfl rfl, rfl, by decide +kernel, by decide +kernel, by decide +kernel, by decide⟩
theorem zo_zm_Fault_build : zMok zm_Fault_build 1 := ⟨zmr 3238 rfl rfl, zmr 1009 rfl rfl, rfl, by decide +kernel, by decide +kernel, by decide +kernel, by decide⟩
theorem zo_zm_Fault_set : zMok zm_Fault_set 0 := ⟨zmr 4023 rfl rfl, zmr 1009 rfl rfl, rfl, by decide +kernel, by decide +kernel, by decide +kernel, by decide⟩
theorem zo_zm_Presses_number : zMok zm_Presses_number 0 := ⟨zmr 4027 rfl rfl, zmr 1010 rfl rfl, rfl, by decide +kernel, by decide +kernel, by decide +kernel, by decide⟩
theorem zo_zm_Chrono_typeSet : zMok zm_Chrono_typeSet 0 := ⟨zmr 4031 rfl rfl, zmr 1008 rfl rfl, rfl, by decide +kernel, by decide +kernel, by decide +kernel, by decide⟩
theorem zo_zm_M_within : zMok zm_M_within 3 := ⟨zmr 4191 rfl rfl, zmr 1011 rfl rfl, rfl, by decide +kernel, by decide +kernel, by decide +kernel, by decide⟩
theorem zo_zm_M_isCopyPage : zMok zm_M_isCopyPage 0 := ⟨zmr 4203 rfl rfl, zmr 1011 rfl rfl, rfl, by decide +kernel, by decide +kernel, by decide +kernel, by decide⟩
theorem zo_zm_M_readInto : zMok zm_M_readInto 1 := ⟨zmr 4207 rfl rfl, zmr 1011 rfl rfl, rfl, by decide +kernel, by decide +kernel, by decide +kernel, by decide⟩
theorem zo_zm_M_isCopy : zMok zm_M_isCopy 1 := ⟨zmr 4215 rfl rfl, zmr 1011 rfl rfl, rfl, by decide +kernel, by decide +kernel, by decide +kernel, by decide⟩
theorem zo_zm_M_family : zMok zm_M_family 1 := ⟨zmr 5014 rfl rfl, zmr 1011 rfl rfl, rfl, by decide +kernel, by decide +kernel, by decide +kernel, by decide⟩
theorem zo_zm_M_letterAt : zMok zm_M_letterAt 2 := ⟨zmr 5008 rfl rfl, zmr 1011 rfl rfl, rfl, by decide +kernel, by decide +kernel, by decide +kernel, by decide⟩
theorem zo_zm_M_pairCost : zMok zm_M_pairCost 2 := ⟨zmr 5011 rfl rfl, zmr 1011 rfl rfl, rfl, by decide +kernel, by decide +kernel, by decide +kernel, by decide⟩
theorem zo_zm_M_costBy : zMok zm_M_costBy 3 := ⟨zmr 5004 rfl rfl, zmr 1011 rfl rfl, rfl, by decide +kernel, by decide +kernel, by decide +kernel, by decide⟩
theorem zo_zm_M_leastCost : zMok zm_M_leastCost 2 := ⟨zmr 4239 rfl rfl, zmr 1011 rfl rfl, rfl, by decide +kernel, by decide +kernel, by decide +kernel, by decide⟩
theorem zo_zm_M_isCollated : zMok zm_M_isCollated 0 := ⟨zmr 5018 rfl rfl, zmr 1011 rfl rfl, rfl, by decide +kernel, by decide +kernel, by decide +kernel, by decide⟩
theorem zo_zm_M_layCollation : zMok zm_M_layCollation 2 := ⟨zmr 4235 rfl rfl, zmr 1011 rfl rfl, rfl, by decide +kernel, by decide +kernel, by decide +kernel, by decide⟩
theorem zo_zm_M_stepsOf : zMok zm_M_stepsOf 1 := ⟨zmr 5022 rfl rfl, zmr 1011 rfl rfl, rfl, by decide +kernel, by decide +kernel, by decide +kernel, by decide⟩
theorem zo_zm_M_collateNow : zMok zm_M_collateNow 3 := ⟨zmr 4231 rfl rfl, zmr 1011 rfl rfl, rfl, by decide +kernel, by decide +kernel, by decide +kernel, by decide⟩
theorem zo_zm_M_stepNow : zMok zm_M_stepNow 3 := ⟨zmr 5030 rfl rfl, zmr 1011 rfl rfl, rfl, by decide +kernel, by decide +kernel, by decide +kernel, by decide⟩
theorem zo_zm_M_places : zMok zm_M_places 0 := ⟨zmr 5054 rfl rfl, zmr 1011 rfl rfl, rfl, by decide +kernel, by decide +kernel, by decide +kernel, by decide⟩
theorem zo_zm_M_unlike : zMok zm_M_unlike 2 := ⟨zmr 5050 rfl rfl, zmr 1011 rfl rfl, rfl, by decide +kernel, by decide +kernel, by decide +kernel, by decide⟩
theorem zo_zm_M_layReading : zMok zm_M_layReading 1 := ⟨zmr 5046 rfl rfl, zmr 1011 rfl rfl, rfl, by decide +kernel, by decide +kernel, by decide +kernel, by decide⟩
theorem zo_zm_M_layTree : zMok zm_M_layTree 0 := ⟨zmr 5058 rfl rfl, zmr 1011 rfl rfl, rfl, by decide +kernel, by decide +kernel, by decide +kernel, by decide⟩
theorem zo_zm_M_farNow : zMok zm_M_farNow 2 := ⟨zmr 5062 rfl rfl, zmr 1011 rfl rfl, rfl, by decide +kernel, by decide +kernel, by decide +kernel, by decide⟩
theorem zo_zm_M_readingOf : zMok zm_M_readingOf 2 := ⟨zmr 5106 rfl rfl, zmr 1011 rfl rfl, rfl, by decide +kernel, by decide +kernel, by decide +kernel, by decide⟩
theorem zo_zm_M_isTurned : zMok zm_M_isTurned 2 := ⟨zmr 5118 rfl rfl, zmr 1011 rfl rfl, rfl, by decide +kernel, by decide +kernel, by decide +kernel, by decide⟩
theorem zo_zm_M_layStates : zMok zm_M_layStates 0 := ⟨zmr 5042 rfl rfl, zmr 1011 rfl rfl, rfl, by decide +kernel, by decide +kernel, by decide +kernel, by decide⟩
theorem zo_zm_M_costOf : zMok zm_M_costOf 1 := ⟨zmr 5066 rfl rfl, zmr 1011 rfl rfl, rfl, by decide +kernel, by decide +kernel, by decide +kernel, by decide⟩
theorem zo_zm_M_moreOf : zMok zm_M_moreOf 1 := ⟨zmr 5070 rfl rfl, zmr 1011 rfl rfl, rfl, by decide +kernel, by decide +kernel, by decide +kernel, by decide⟩
theorem zo_zm_M_otherReadings : zMok zm_M_otherReadings 1 := ⟨zmr 5074 rfl rfl, zmr 1011 rfl rfl, rfl, by decide +kernel, by decide +kernel, by decide +kernel, by decide⟩
theorem zo_zm_M_copyNow : zMok zm_M_copyNow 2 := ⟨zmr 5038 rfl rfl, zmr 1011 rfl rfl, rfl, by decide +kernel, by decide +kernel, by decide +kernel, by decide⟩
theorem zo_zm_M_turnedMany : zMok zm_M_turnedMany 1 := ⟨zmr 5114 rfl rfl, zmr 1011 rfl rfl, rfl, by decide +kernel, by decide +kernel, by decide +kernel, by decide⟩
theorem zo_zm_M_outMany : zMok zm_M_outMany 0 := ⟨zmr 5094 rfl rfl, zmr 1011 rfl rfl, rfl, by decide +kernel, by decide +kernel, by decide +kernel, by decide⟩
theorem zo_zm_M_changes : zMok zm_M_changes 0 := ⟨zmr 5098 rfl rfl, zmr 1011 rfl rfl, rfl, by decide +kernel, by decide +kernel, by decide +kernel, by decide⟩
theorem zo_zm_M_unlikePlaces : zMok zm_M_unlikePlaces 0 := ⟨zmr 5102 rfl rfl, zmr 1011 rfl rfl, rfl, by decide +kernel, by decide +kernel, by decide +kernel, by decide⟩
theorem zo_zm_M_turnedAll : zMok zm_M_turnedAll 0 := ⟨zmr 5110 rfl rfl, zmr 1011 rfl rfl, rfl, by decide +kernel, by decide +kernel, by decide +kernel, by decide⟩
theorem zo_zm_M_childless : zMok zm_M_childless 0 := ⟨zmr 5122 rfl rfl, zmr 1011 rfl rfl, rfl, by decide +kernel, by decide +kernel, by decide +kernel, by decide⟩
theorem zo_zm_M_statesNow : zMok zm_M_statesNow 1 := ⟨zmr 5090 rfl rfl, zmr 1011 rfl rfl, rfl, by decide +kernel, by decide +kernel, by decide +kernel, by decide⟩
theorem zo_zm_M_copiesIn : zMok zm_M_copiesIn 1 := ⟨zmr 5138 rfl rfl, zmr 1011 rfl rfl, rfl, by decide +kernel, by decide +kernel, by decide +kernel, by decide⟩
theorem zo_zm_M_above : zMok zm_M_above 1 := ⟨zmr 5142 rfl rfl, zmr 1011 rfl rfl, rfl, by decide +kernel, by decide +kernel, by decide +kernel, by decide⟩
theorem zo_zm_M_tellState : zMok zm_M_tellState 2 := ⟨zmr 5134 rfl rfl, zmr 1011 rfl rfl, rfl, by decide +kernel, by decide +kernel, by decide +kernel, by decide⟩
theorem zo_zm_M_stateNow : zMok zm_M_stateNow 2 := ⟨zmr 5130 rfl rfl, zmr 1011 rfl rfl, rfl, by decide +kernel, by decide +kernel, by decide +kernel, by decide⟩
theorem zo_zm_M_isTaken : zMok zm_M_isTaken 3 := ⟨zmr 5158 rfl rfl, zmr 1011 rfl rfl, rfl, by decide +kernel, by decide +kernel, by decide +kernel, by decide⟩
theorem zo_zm_M_isSighting : zMok zm_M_isSighting 1 := ⟨zmr 5166 rfl rfl, zmr 1011 rfl rfl, rfl, by decide +kernel, by decide +kernel, by decide +kernel, by decide⟩
theorem zo_zm_M_sightingNow : zMok zm_M_sightingNow 2 := ⟨zmr 5174 rfl rfl, zmr 1011 rfl rfl, rfl, by decide +kernel, by decide +kernel, by decide +kernel, by decide⟩
theorem zo_zm_M_has : zMok zm_M_has 2 := ⟨zmr 5197 rfl rfl, zmr 1011 rfl rfl, rfl, by decide +kernel, by decide +kernel, by decide +kernel, by decide⟩
theorem zo_zm_M_canBeFirst : zMok zm_M_canBeFirst 2 := ⟨zmr 5205 rfl rfl, zmr 1011 rfl rfl, rfl, by decide +kernel, by decide +kernel, by decide +kernel, by decide⟩
theorem zo_zm_M_layAhead : zMok zm_M_layAhead 1 := ⟨zmr 5194 rfl rfl, zmr 1011 rfl rfl, rfl, by decide +kernel, by decide +kernel, by decide +kernel, by decide⟩
theorem zo_zm_M_layWays : zMok zm_M_layWays 0 := ⟨zmr 5201 rfl rfl, zmr 1011 rfl rfl, rfl, by decide +kernel, by decide +kernel, by decide +kernel, by decide⟩
theorem zo_zm_M_allSightings : zMok zm_M_allSightings 0 := ⟨zmr 5186 rfl rfl, zmr 1011 rfl rfl, rfl, by decide +kernel, by decide +kernel, by decide +kernel, by decide⟩
theorem zo_zm_M_many : zMok zm_M_many 1 := ⟨zmr 5208 rfl rfl, zmr 1011 rfl rfl, rfl, by decide +kernel, by decide +kernel, by decide +kernel, by decide⟩
theorem zo_zm_M_orders : zMok zm_M_orders 1 := ⟨zmr 5190 rfl rfl, zmr 1011 rfl rfl, rfl, by decide +kernel, by decide +kernel, by decide +kernel, by decide⟩
theorem zo_zm_M_orderAt : zMok zm_M_orderAt 1 := ⟨zmr 5182 rfl rfl, zmr 1011 rfl rfl, rfl, by decide +kernel, by decide +kernel, by decide +kernel, by decide⟩
theorem zo_zm_M_typesOn : zMok zm_M_typesOn 1 := ⟨zmr 5228 rfl rfl, zmr 1011 rfl rfl, rfl, by decide +kernel, by decide +kernel, by decide +kernel, by decide⟩
theorem zo_zm_M_goesOn : zMok zm_M_goesOn 1 := ⟨zmr 6008 rfl rfl, zmr 1011 rfl rfl, rfl, by decide +kernel, by decide +kernel, by decide +kernel, by decide⟩
theorem zo_zm_M_goesBack : zMok zm_M_goesBack 1 := ⟨zmr 6012 rfl rfl, zmr 1011 rfl rfl, rfl, by decide +kernel, by decide +kernel, by decide +kernel, by decide⟩
theorem zo_zm_M_mayBeOn : zMok zm_M_mayBeOn 2 := ⟨zmr 6016 rfl rfl, zmr 1011 rfl rfl, rfl, by decide +kernel, by decide +kernel, by decide +kernel, by decide⟩
theorem zo_zm_M_togetherWith : zMok zm_M_togetherWith 1 := ⟨zmr 5224 rfl rfl, zmr 1011 rfl rfl, rfl, by decide +kernel, by decide +kernel, by decide +kernel, by decide⟩
theorem zo_zm_M_findsRoom : zMok zm_M_findsRoom 1 := ⟨zmr 6004 rfl rfl, zmr 1011 rfl rfl, rfl, by decide +kernel, by decide +kernel, by decide +kernel, by decide⟩
theorem zo_zm_M_layPresses : zMok zm_M_layPresses 0 := ⟨zmr 6000 rfl rfl, zmr 1011 rfl rfl, rfl, by decide +kernel, by decide +kernel, by decide +kernel, by decide⟩
theorem zo_zm_M_onForme : zMok zm_M_onForme 1 := ⟨zmr 5220 rfl rfl, zmr 1011 rfl rfl, rfl, by decide +kernel, by decide +kernel, by decide +kernel, by decide⟩
theorem zo_zm_M_placeOf : zMok zm_M_placeOf 1 := ⟨zmr 5232 rfl rfl, zmr 1011 rfl rfl, rfl, by decide +kernel, by decide +kernel, by decide +kernel, by decide⟩
theorem zo_zm_M_pressNow : zMok zm_M_pressNow 1 := ⟨zmr 5236 rfl rfl, zmr 1011 rfl rfl, rfl, by decide +kernel, by decide +kernel, by decide +kernel, by decide⟩
theorem zo_zm_M_formeNow : zMok zm_M_formeNow 2 := ⟨zmr 5216 rfl rfl, zmr 1011 rfl rfl, rfl, by decide +kernel, by decide +kernel, by decide +kernel, by decide⟩
theorem zo_zm_M_faultNow : zMok zm_M_faultNow 0 := ⟨zmr 6028 rfl rfl, zmr 1011 rfl rfl, rfl, by decide +kernel, by decide +kernel, by decide +kernel, by decide⟩
theorem zo_zm_M_pressesNow : zMok zm_M_pressesNow 0 := ⟨zmr 6032 rfl rfl, zmr 1011 rfl rfl, rfl, by decide +kernel, by decide +kernel, by decide +kernel, by decide⟩
theorem zo_zm_M_typesSeen : zMok zm_M_typesSeen 0 := ⟨zmr 6036 rfl rfl, zmr 1011 rfl rfl, rfl, by decide +kernel, by decide +kernel, by decide +kernel, by decide⟩
theorem zo_zm_M_formesNow : zMok zm_M_formesNow 1 := ⟨zmr 6024 rfl rfl, zmr 1011 rfl rfl, rfl, by decide +kernel, by decide +kernel, by decide +kernel, by decide⟩
theorem zo_zm_M_howMany : zMok zm_M_howMany 1 := ⟨zmr 6044 rfl rfl, zmr 1011 rfl rfl, rfl, by decide +kernel, by decide +kernel, by decide +kernel, by decide⟩
theorem zo_zm_M_mix : zMok zm_M_mix 1 := ⟨zmr 6057 rfl rfl, zmr 1011 rfl rfl, rfl, by decide +kernel, by decide +kernel, by decide +kernel, by decide⟩
theorem zo_zm_M_mixCopies : zMok zm_M_mixCopies 0 := ⟨zmr 6053 rfl rfl, zmr 1011 rfl rfl, rfl, by decide +kernel, by decide +kernel, by decide +kernel, by decide⟩
theorem zo_zm_M_mixStates : zMok zm_M_mixStates 0 := ⟨zmr 6062 rfl rfl, zmr 1011 rfl rfl, rfl, by decide +kernel, by decide +kernel, by decide +kernel, by decide⟩
theorem zo_zm_M_mixFormes : zMok zm_M_mixFormes 0 := ⟨zmr 6066 rfl rfl, zmr 1011 rfl rfl, rfl, by decide +kernel, by decide +kernel, by decide +kernel, by decide⟩
theorem zo_zm_P_init : zMok zm_P_init 0 := ⟨zmr 1018 rfl rfl, zmr 1001 rfl rfl, rfl, by decide +kernel, by decide +kernel, by decide +kernel, by decide⟩
theorem zo_zm_M_init : zMok zm_M_init 0 := ⟨zmr 4085 rfl rfl, zmr 1011 rfl rfl, rfl, by decide +kernel, by decide +kernel, by decide +kernel, by decide⟩
theorem zo_zm_P_letter : zMok zm_P_letter 1 := ⟨zmr 2022 rfl rfl, zmr 1001 rfl rfl, rfl, by decide +kernel, by decide +kernel, by decide +kernel, by decide⟩
theorem zo_zm_M_letter : zMok zm_M_letter 1 := ⟨zmr 4188 rfl rfl, zmr 1011 rfl rfl, rfl, by decide +kernel, by decide +kernel, by decide +kernel, by decide⟩
theorem zo_zm_P_blank : zMok zm_P_blank 0 := ⟨zmr 2034 rfl rfl, zmr 1001 rfl rfl, rfl, by decide +kernel, by decide +kernel, by decide +kernel, by decide⟩
theorem zo_zm_M_blank : zMok zm_M_blank 0 := ⟨zmr 4195 rfl rfl, zmr 1011 rfl rfl, rfl, by decide +kernel, by decide +kernel, by decide +kernel, by decide⟩
theorem zo_zm_P_copy : zMok zm_P_copy 0 := ⟨zmr 2042 rfl rfl, zmr 1001 rfl rfl, rfl, by decide +kernel, by decide +kernel, by decide +kernel, by decide⟩
theorem zo_zm_M_copy : zMok zm_M_copy 0 := ⟨zmr 4199 rfl rfl, zmr 1011 rfl rfl, rfl, by decide +kernel, by decide +kernel, by decide +kernel, by decide⟩
theorem zo_zm_P_correct : zMok zm_P_correct 1 := ⟨zmr 2075 rfl rfl, zmr 1001 rfl rfl, rfl, by decide +kernel, by decide +kernel, by decide +kernel, by decide⟩
theorem zo_zm_M_correct : zMok zm_M_correct 1 := ⟨zmr 4211 rfl rfl, zmr 1011 rfl rfl, rfl, by decide +kernel, by decide +kernel, by decide +kernel, by decide⟩
theorem zo_zm_P_drop : zMok zm_P_drop 0 := ⟨zmr 2088 rfl rfl, zmr 1001 rfl rfl, rfl, by decide +kernel, by decide +kernel, by decide +kernel, by decide⟩
theorem zo_zm_M_drop : zMok zm_M_drop 0 := ⟨zmr 4219 rfl rfl, zmr 1011 rfl rfl, rfl, by decide +kernel, by decide +kernel, by decide +kernel, by decide⟩
theorem zo_zm_P_band : zMok zm_P_band 1 := ⟨zmr 2097 rfl rfl, zmr 1001 rfl rfl, rfl, by decide +kernel, by decide +kernel, by decide +kernel, by decide⟩
theorem zo_zm_M_band : zMok zm_M_band 1 := ⟨zmr 4223 rfl rfl, zmr 1011 rfl rfl, rfl, by decide +kernel, by decide +kernel, by decide +kernel, by decide⟩
theorem zo_zm_P_of : zMok zm_P_of 2 := ⟨zmr 2109 rfl rfl, zmr 1001 rfl rfl, rfl, by decide +kernel, by decide +kernel, by decide +kernel, by decide⟩
theorem zo_zm_M_of : zMok zm_M_of 2 := ⟨zmr 5034 rfl rfl, zmr 1011 rfl rfl, rfl, by decide +kernel, by decide +kernel, by decide +kernel, by decide⟩
theorem zo_zm_P_sign : zMok zm_P_sign 2 := ⟨zmr 3017 rfl rfl, zmr 1001 rfl rfl, rfl, by decide +kernel, by decide +kernel, by decide +kernel, by decide⟩
theorem zo_zm_M_sign : zMok zm_M_sign 2 := ⟨zmr 5078 rfl rfl, zmr 1011 rfl rfl, rfl, by decide +kernel, by decide +kernel, by decide +kernel, by decide⟩
theorem zo_zm_P_collate : zMok zm_P_collate 3 := ⟨zmr 3026 rfl rfl, zmr 1001 rfl rfl, rfl, by decide +kernel, by decide +kernel, by decide +kernel, by decide⟩
theorem zo_zm_M_collate : zMok zm_M_collate 3 := ⟨zmr 4227 rfl rfl, zmr 1011 rfl rfl, rfl, by decide +kernel, by decide +kernel, by decide +kernel, by decide⟩
theorem zo_zm_P_step : zMok zm_P_step 3 := ⟨zmr 3030 rfl rfl, zmr 1001 rfl rfl, rfl, by decide +kernel, by decide +kernel, by decide +kernel, by decide⟩
theorem zo_zm_M_step : zMok zm_M_step 3 := ⟨zmr 5026 rfl rfl, zmr 1011 rfl rfl, rfl, by decide +kernel, by decide +kernel, by decide +kernel, by decide⟩
theorem zo_zm_P_reading : zMok zm_P_reading 2 := ⟨zmr 3036 rfl rfl, zmr 1001 rfl rfl, rfl, by decide +kernel, by decide +kernel, by decide +kernel, by decide⟩
theorem zo_zm_M_reading : zMok zm_M_reading 2 := ⟨zmr 5082 rfl rfl, zmr 1011 rfl rfl, rfl, by decide +kernel, by decide +kernel, by decide +kernel, by decide⟩
theorem zo_zm_P_states : zMok zm_P_states 1 := ⟨zmr 3041 rfl rfl, zmr 1001 rfl rfl, rfl, by decide +kernel, by decide +kernel, by decide +kernel, by decide⟩
theorem zo_zm_M_states : zMok zm_M_states 1 := ⟨zmr 5086 rfl rfl, zmr 1011 rfl rfl, rfl, by decide +kernel, by decide +kernel, by decide +kernel, by decide⟩
theorem zo_zm_P_state : zMok zm_P_state 2 := ⟨zmr 3071 rfl rfl, zmr 1001 rfl rfl, rfl, by decide +kernel, by decide +kernel, by decide +kernel, by decide⟩
theorem zo_zm_M_state : zMok zm_M_state 2 := ⟨zmr 5126 rfl rfl, zmr 1011 rfl rfl, rfl, by decide +kernel, by decide +kernel, by decide +kernel, by decide⟩
theorem zo_zm_P_far : zMok zm_P_far 2 := ⟨zmr 3084 rfl rfl, zmr 1001 rfl rfl, rfl, by decide +kernel, by decide +kernel, by decide +kernel, by decide⟩
theorem zo_zm_M_far : zMok zm_M_far 2 := ⟨zmr 5146 rfl rfl, zmr 1011 rfl rfl, rfl, by decide +kernel, by decide +kernel, by decide +kernel, by decide⟩
theorem zo_zm_P_turned : zMok zm_P_turned 2 := ⟨zmr 3089 rfl rfl, zmr 1001 rfl rfl, rfl, by decide +kernel, by decide +kernel, by decide +kernel, by decide⟩
theorem zo_zm_M_turned : zMok zm_M_turned 2 := ⟨zmr 5150 rfl rfl, zmr 1011 rfl rfl, rfl, by decide +kernel, by decide +kernel, by decide +kernel, by decide⟩
theorem zo_zm_P_see : zMok zm_P_see 4 := ⟨zmr 3097 rfl rfl, zmr 1001 rfl rfl, rfl, by decide +kernel, by decide +kernel, by decide +kernel, by decide⟩
theorem zo_zm_M_see : zMok zm_M_see 4 := ⟨zmr 5154 rfl rfl, zmr 1011 rfl rfl, rfl, by decide +kernel, by decide +kernel, by decide +kernel, by decide⟩
theorem zo_zm_P_unsee : zMok zm_P_unsee 1 := ⟨zmr 3113 rfl rfl, zmr 1001 rfl rfl, rfl, by decide +kernel, by decide +kernel, by decide +kernel, by decide⟩
theorem zo_zm_M_unsee : zMok zm_M_unsee 1 := ⟨zmr 5162 rfl rfl, zmr 1011 rfl rfl, rfl, by decide +kernel, by decide +kernel, by decide +kernel, by decide⟩
theorem zo_zm_P_seen : zMok zm_P_seen 2 := ⟨zmr 3126 rfl rfl, zmr 1001 rfl rfl, rfl, by decide +kernel, by decide +kernel, by decide +kernel, by decide⟩
theorem zo_zm_M_seen : zMok zm_M_seen 2 := ⟨zmr 5170 rfl rfl, zmr 1011 rfl rfl, rfl, by decide +kernel, by decide +kernel, by decide +kernel, by decide⟩
theorem zo_zm_P_forme : zMok zm_P_forme 2 := ⟨zmr 3134 rfl rfl, zmr 1001 rfl rfl, rfl, by decide +kernel, by decide +kernel, by decide +kernel, by decide⟩
theorem zo_zm_M_forme : zMok zm_M_forme 2 := ⟨zmr 5212 rfl rfl, zmr 1011 rfl rfl, rfl, by decide +kernel, by decide +kernel, by decide +kernel, by decide⟩
theorem zo_zm_P_formes : zMok zm_P_formes 1 := ⟨zmr 3222 rfl rfl, zmr 1001 rfl rfl, rfl, by decide +kernel, by decide +kernel, by decide +kernel, by decide⟩
theorem zo_zm_M_formes : zMok zm_M_formes 1 := ⟨zmr 6020 rfl rfl, zmr 1011 rfl rfl, rfl, by decide +kernel, by decide +kernel, by decide +kernel, by decide⟩
theorem zo_zm_P_order : zMok zm_P_order 1 := ⟨zmr 4035 rfl rfl, zmr 1001 rfl rfl, rfl, by decide +kernel, by decide +kernel, by decide +kernel, by decide⟩
theorem zo_zm_M_order : zMok zm_M_order 1 := ⟨zmr 5178 rfl rfl, zmr 1011 rfl rfl, rfl, by decide +kernel, by decide +kernel, by decide +kernel, by decide⟩
theorem zo_zm_M_count : zMok zm_M_count 1 := ⟨zmr 6040 rfl rfl, zmr 1011 rfl rfl, rfl, by decide +kernel, by decide +kernel, by decide +kernel, by decide⟩
theorem zo_zm_P_digest : zMok zm_P_digest 0 := ⟨zmr 4052 rfl rfl, zmr 1001 rfl rfl, rfl, by decide +kernel, by decide +kernel, by decide +kernel, by decide⟩
theorem zo_zm_M_digest : zMok zm_M_digest 0 := ⟨zmr 6048 rfl rfl, zmr 1011 rfl rfl, rfl, by decide +kernel, by decide +kernel, by decide +kernel, by decide⟩
theorem zr_0_15 : zCok 0 (15, 0, 0, zm_Text_size) := ⟨zo_zm_Text_size, fun _ => ⟨zmr 2134 rfl rfl, zmr 2024 rfl rfl, zmr 2025 rfl rfl, by decide⟩, fun h => absurd h (by decide), fun h => absurd h (by decide), fun h => absurd h (by decide)⟩
theorem zr_0_27 : zCok 0 (27, 0, 1, zm_Alignment_begin) := ⟨zo_zm_Alignment_begin, fun _ => ⟨zmr 2138 rfl rfl, zmr 2139 rfl rfl, zmr 2140 rfl rfl, by decide⟩, fun h => absurd h (by decide), fun h => absurd h (by decide), fun h => absurd h (by decide)⟩
theorem zr_0_33 : zCok 0 (33, 0, 3, zm_Aligner_fill) := ⟨zo_zm_Aligner_fill, fun _ => ⟨zmr 2142 rfl rfl, zmr 2144 rfl rfl, zmr 0 rfl rfl, by decide⟩, fun h => absurd h (by decide), fun h => absurd h (by decide), fun h => absurd h (by decide)⟩
theorem zr_0_37 : zCok 0 (37, 0, 3, zm_Aligner_trace) := ⟨zo_zm_Aligner_trace, fun _ => ⟨zmr 2158 rfl rfl, zmr 2160 rfl rfl, zmr 1 rfl rfl, by decide⟩, fun h => absurd h (by decide), fun h => absurd h (by decide), fun h => absurd h (by decide)⟩
theorem zr_0_42 : zCok 0 (42, 0, 1, zm_Text_at) := ⟨zo_zm_Text_at, fun _ => ⟨zmr 2147 rfl rfl, zmr 2064 rfl rfl, zmr 2065 rfl rfl, by decide⟩, fun h => absurd h (by decide), fun h => absurd h (by decide), fun h => absurd h (by decide)⟩
theorem zr_0_45 : zCok 0 (45, 1, 2, zm_Aligner_kindOfPair) := ⟨zo_zm_Aligner_kindOfPair, fun h => absurd h (by decide), fun _ => ⟨zmr 2148 rfl rfl, zmr 2149 rfl rfl⟩, fun h => absurd h (by decide), fun h => absurd h (by decide)⟩
theorem zr_0_55 : zCok 0 (55, 0, 1, zm_Alignment_add) := ⟨zo_zm_Alignment_add, fun _ => ⟨zmr 2162 rfl rfl, zmr 2163 rfl rfl, zmr 2164 rfl rfl, by decide⟩, fun h => absurd h (by decide), fun h => absurd h (by decide), fun h => absurd h (by decide)⟩
theorem zCo0 : ∀ e ∈ zCT0, zCok 0 e := List.forall_mem_cons.mpr ⟨zr_0_15, List.forall_mem_cons.mpr ⟨zr_0_27, List.forall_mem_cons.mpr ⟨zr_0_33, List.forall_mem_cons.mpr ⟨zr_0_37, List.forall_mem_cons.mpr ⟨zr_0_42, List.forall_mem_cons.mpr ⟨zr_0_45, List.forall_mem_cons.mpr ⟨zr_0_55, fun _ h => absurd h List.not_mem_nil⟩⟩⟩⟩⟩⟩⟩
theorem zr_1_31 : zCok 1 (31, 0, 0, zm_Alignment_length) := ⟨zo_zm_Alignment_length, fun _ => ⟨zmr 2189 rfl rfl, zmr 2178 rfl rfl, zmr 2179 rfl rfl, by decide⟩, fun h => absurd h (by decide), fun h => absurd h (by decide), fun h => absurd h (by decide)⟩
theorem zr_1_35 : zCok 1 (35, 0, 1, zm_Alignment_hasStep) := ⟨zo_zm_Alignment_hasStep, fun _ => ⟨zmr 2185 rfl rfl, zmr 2186 rfl rfl, zmr 2187 rfl rfl, by decide⟩, fun h => absurd h (by decide), fun h => absurd h (by decide), fun h => absurd h (by decide)⟩
theorem zCo1 : ∀ e ∈ zCT1, zCok 1 e := List.forall_mem_cons.mpr ⟨zr_1_31, List.forall_mem_cons.mpr ⟨zr_1_35, fun _ h => absurd h List.not_mem_nil⟩⟩
theorem zr_2_37 : zCok 2 (37, 0, 0, zm_Sight_changes) := ⟨zo_zm_Sight_changes, fun _ => ⟨zmr 3143 rfl rfl, zmr 3144 rfl rfl, zmr 3145 rfl rfl, by decide⟩, fun h => absurd h (by decide), fun h => absurd h (by decide), fun h => absurd h (by decide)⟩
theorem zr_2_43 : zCok 2 (43, 0, 0, zm_Sight_size) := ⟨zo_zm_Sight_size, fun _ => ⟨zmr 3147 rfl rfl, zmr 3103 rfl rfl, zmr 3104 rfl rfl, by decide⟩, fun h => absurd h (by decide), fun h => absurd h (by decide), fun h => absurd h (by decide)⟩
theorem zr_2_46 : zCok 2 (46, 0, 2, zm_Chrono_enter) := ⟨zo_zm_Chrono_enter, fun _ => ⟨zmr 3148 rfl rfl, zmr 3150 rfl rfl, zmr 17 rfl rfl, by decide⟩, fun h => absurd h (by decide), fun h => absurd h (by decide), fun h => absurd h (by decide)⟩
theorem zr_2_50 : zCok 2 (50, 0, 1, zm_Chrono_findCompanions) := ⟨zo_zm_Chrono_findCompanions, fun _ => ⟨zmr 3157 rfl rfl, zmr 3159 rfl rfl, zmr 18 rfl rfl, by decide⟩, fun h => absurd h (by decide), fun h => absurd h (by decide), fun h => absurd h (by decide)⟩
theorem zr_2_54 : zCok 2 (54, 0, 0, zm_Chrono_countOrders) := ⟨zo_zm_Chrono_countOrders, fun _ => ⟨zmr 3161 rfl rfl, zmr 3163 rfl rfl, zmr 19 rfl rfl, by decide⟩, fun h => absurd h (by decide), fun h => absurd h (by decide), fun h => absurd h (by decide)⟩
theorem zr_2_57 : zCok 2 (57, 0, 0, zm_Chrono_findFirst) := ⟨zo_zm_Chrono_findFirst, fun _ => ⟨zmr 3165 rfl rfl, zmr 3167 rfl rfl, zmr 20 rfl rfl, by decide⟩, fun h => absurd h (by decide), fun h => absurd h (by decide), fun h => absurd h (by decide)⟩
theorem zr_2_60 : zCok 2 (60, 0, 2, zm_Sight_get) := ⟨zo_zm_Sight_get, fun _ => ⟨zmr 3152 rfl rfl, zmr 3128 rfl rfl, zmr 3129 rfl rfl, by decide⟩, fun h => absurd h (by decide), fun h => absurd h (by decide), fun h => absurd h (by decide)⟩
theorem zr_2_64 : zCok 2 (64, 0, 2, zm_Sight_isLessWorn) := ⟨zo_zm_Sight_isLessWorn, fun _ => ⟨zmr 3153 rfl rfl, zmr 3154 rfl rfl, zmr 3155 rfl rfl, by decide⟩, fun h => absurd h (by decide), fun h => absurd h (by decide), fun h => absurd h (by decide)⟩
theorem zr_2_68 : zCok 2 (68, 0, 1, zm_Chrono_firstFree) := ⟨zo_zm_Chrono_firstFree, fun _ => ⟨zmr 3169 rfl rfl, zmr 3171 rfl rfl, zmr 21 rfl rfl, by decide⟩, fun h => absurd h (by decide), fun h => absurd h (by decide), fun h => absurd h (by decide)⟩
theorem zr_2_71 : zCok 2 (71, 1, 1, zm_Int_numberOfTrailingZeros) := ⟨zo_zm_Int_numberOfTrailingZeros, fun h => absurd h (by decide), fun _ => ⟨zmr 3173 rfl rfl, zmr 3174 rfl rfl⟩, fun h => absurd h (by decide), fun h => absurd h (by decide)⟩
theorem zr_2_76 : zCok 2 (76, 1, 1, zm_Int_bitCount) := ⟨zo_zm_Int_bitCount, fun h => absurd h (by decide), fun _ => ⟨zmr 3198 rfl rfl, zmr 3059 rfl rfl⟩, fun h => absurd h (by decide), fun h => absurd h (by decide)⟩
theorem zr_2_79 : zCok 2 (79, 0, 0, zm_Chrono_orderLength) := ⟨zo_zm_Chrono_orderLength, fun _ => ⟨zmr 3194 rfl rfl, zmr 3195 rfl rfl, zmr 3196 rfl rfl, by decide⟩, fun h => absurd h (by decide), fun h => absurd h (by decide), fun h => absurd h (by decide)⟩
theorem zr_2_82 : zCok 2 (82, 0, 1, zm_Chrono_hasPlace) := ⟨zo_zm_Chrono_hasPlace, fun _ => ⟨zmr 4044 rfl rfl, zmr 4037 rfl rfl, zmr 4038 rfl rfl, by decide⟩, fun h => absurd h (by decide), fun h => absurd h (by decide), fun h => absurd h (by decide)⟩
theorem zCo2 : ∀ e ∈ zCT2, zCok 2 e := List.forall_mem_cons.mpr ⟨zr_2_37, List.forall_mem_cons.mpr ⟨zr_2_43, List.forall_mem_cons.mpr ⟨zr_2_46, List.forall_mem_cons.mpr ⟨zr_2_50, List.forall_mem_cons.mpr ⟨zr_2_54, List.forall_mem_cons.mpr ⟨zr_2_57, List.forall_mem_cons.mpr ⟨zr_2_60, List.forall_mem_cons.mpr ⟨zr_2_64, List.forall_mem_cons.mpr ⟨zr_2_68, List.forall_mem_cons.mpr ⟨zr_2_71, List.forall_mem_cons.mpr ⟨zr_2_76, List.forall_mem_cons.mpr ⟨zr_2_79, List.forall_mem_cons.mpr ⟨zr_2_82, fun _ h => absurd h List.not_mem_nil⟩⟩⟩⟩⟩⟩⟩⟩⟩⟩⟩⟩⟩
theorem zr_3_25 : zCok 3 (25, 3, 0, zm_Aligner_init) := ⟨zo_zm_Aligner_init, fun h => absurd h (by decide), fun h => absurd h (by decide), fun h => absurd h (by decide), fun _ => ⟨List.mem_of_getElem? (i := 1) rfl, zmr 1049 rfl rfl, rfl, rfl⟩⟩
theorem zr_3_40 : zCok 3 (40, 3, 0, zm_Text_init) := ⟨zo_zm_Text_init, fun h => absurd h (by decide), fun h => absurd h (by decide), fun h => absurd h (by decide), fun _ => ⟨List.mem_of_getElem? (i := 2) rfl, zmr 1025 rfl rfl, rfl, rfl⟩⟩
theorem zr_3_41 : zCok 3 (41, 3, 0, zm_Alignment_init) := ⟨zo_zm_Alignment_init, fun h => absurd h (by decide), fun h => absurd h (by decide), fun h => absurd h (by decide), fun _ => ⟨List.mem_of_getElem? (i := 3) rfl, zmr 1059 rfl rfl, rfl, rfl⟩⟩
theorem zr_3_42 : zCok 3 (42, 0, 1, zm_Coll_has) := ⟨zo_zm_Coll_has, fun _ => ⟨zmr 2084 rfl rfl, zmr 2077 rfl rfl, zmr 2078 rfl rfl, by decide⟩, fun h => absurd h (by decide), fun h => absurd h (by decide), fun h => absurd h (by decide)⟩
theorem zr_3_52 : zCok 3 (52, 0, 1, zm_Text_takeFrom) := ⟨zo_zm_Text_takeFrom, fun _ => ⟨zmr 2058 rfl rfl, zmr 2059 rfl rfl, zmr 2060 rfl rfl, by decide⟩, fun h => absurd h (by decide), fun h => absurd h (by decide), fun h => absurd h (by decide)⟩
theorem zr_3_56 : zCok 3 (56, 0, 0, zm_Alignment_forget) := ⟨zo_zm_Alignment_forget, fun _ => ⟨zmr 2068 rfl rfl, zmr 2069 rfl rfl, zmr 2070 rfl rfl, by decide⟩, fun h => absurd h (by decide), fun h => absurd h (by decide), fun h => absurd h (by decide)⟩
theorem zr_3_59 : zCok 3 (59, 0, 0, zm_Text_clear) := ⟨zo_zm_Text_clear, fun _ => ⟨zmr 2093 rfl rfl, zmr 2036 rfl rfl, zmr 2037 rfl rfl, by decide⟩, fun h => absurd h (by decide), fun h => absurd h (by decide), fun h => absurd h (by decide)⟩
theorem zr_3_62 : zCok 3 (62, 0, 0, zm_Alignment_isKnown) := ⟨zo_zm_Alignment_isKnown, fun _ => ⟨zmr 2125 rfl rfl, zmr 2126 rfl rfl, zmr 2127 rfl rfl, by decide⟩, fun h => absurd h (by decide), fun h => absurd h (by decide), fun h => absurd h (by decide)⟩
theorem zr_3_66 : zCok 3 (66, 0, 1, zm_Coll_text) := ⟨zo_zm_Coll_text, fun _ => ⟨zmr 2129 rfl rfl, zmr 2081 rfl rfl, zmr 2082 rfl rfl, by decide⟩, fun h => absurd h (by decide), fun h => absurd h (by decide), fun h => absurd h (by decide)⟩
theorem zr_3_70 : zCok 3 (70, 0, 4, zm_Aligner_align) := ⟨zo_zm_Aligner_align, fun _ => ⟨zmr 2130 rfl rfl, zmr 2131 rfl rfl, zmr 2132 rfl rfl, by decide⟩, fun h => absurd h (by decide), fun h => absurd h (by decide), fun h => absurd h (by decide)⟩
theorem zCo3 : ∀ e ∈ zCT3, zCok 3 e := List.forall_mem_cons.mpr ⟨zr_3_25, List.forall_mem_cons.mpr ⟨zr_3_40, List.forall_mem_cons.mpr ⟨zr_3_41, List.forall_mem_cons.mpr ⟨zr_3_42, List.forall_mem_cons.mpr ⟨zr_3_52, List.forall_mem_cons.mpr ⟨zr_3_56, List.forall_mem_cons.mpr ⟨zr_3_59, List.forall_mem_cons.mpr ⟨zr_3_62, List.forall_mem_cons.mpr ⟨zr_3_66, List.forall_mem_cons.mpr ⟨zr_3_70, fun _ h => absurd h List.not_mem_nil⟩⟩⟩⟩⟩⟩⟩⟩⟩⟩
theorem zr_4_34 : zCok 4 (34, 0, 0, zm_Sight_changes) := ⟨zo_zm_Sight_changes, fun _ => ⟨zmr 3239 rfl rfl, zmr 3144 rfl rfl, zmr 3145 rfl rfl, by decide⟩, fun h => absurd h (by decide), fun h => absurd h (by decide), fun h => absurd h (by decide)⟩
theorem zr_4_40 : zCok 4 (40, 0, 1, zm_Fault_findPairs) := ⟨zo_zm_Fault_findPairs, fun _ => ⟨zmr 4000 rfl rfl, zmr 4002 rfl rfl, zmr 23 rfl rfl, by decide⟩, fun h => absurd h (by decide), fun h => absurd h (by decide), fun h => absurd h (by decide)⟩
theorem zr_4_44 : zCok 4 (44, 0, 0, zm_Sight_size) := ⟨zo_zm_Sight_size, fun _ => ⟨zmr 4004 rfl rfl, zmr 3103 rfl rfl, zmr 3104 rfl rfl, by decide⟩, fun h => absurd h (by decide), fun h => absurd h (by decide), fun h => absurd h (by decide)⟩
theorem zr_4_47 : zCok 4 (47, 0, 1, zm_Fault_search) := ⟨zo_zm_Fault_search, fun _ => ⟨zmr 4007 rfl rfl, zmr 4009 rfl rfl, zmr 24 rfl rfl, by decide⟩, fun h => absurd h (by decide), fun h => absurd h (by decide), fun h => absurd h (by decide)⟩
theorem zr_4_51 : zCok 4 (51, 0, 2, zm_Sight_isLessWorn) := ⟨zo_zm_Sight_isLessWorn, fun _ => ⟨zmr 4005 rfl rfl, zmr 3154 rfl rfl, zmr 3155 rfl rfl, by decide⟩, fun h => absurd h (by decide), fun h => absurd h (by decide), fun h => absurd h (by decide)⟩
theorem zr_4_55 : zCok 4 (55, 0, 2, zm_Sight_get) := ⟨zo_zm_Sight_get, fun _ => ⟨zmr 4006 rfl rfl, zmr 3128 rfl rfl, zmr 3129 rfl rfl, by decide⟩, fun h => absurd h (by decide), fun h => absurd h (by decide), fun h => absurd h (by decide)⟩
theorem zr_4_59 : zCok 4 (59, 1, 1, zm_Int_bitCount) := ⟨zo_zm_Int_bitCount, fun h => absurd h (by decide), fun _ => ⟨zmr 4011 rfl rfl, zmr 3059 rfl rfl⟩, fun h => absurd h (by decide), fun h => absurd h (by decide)⟩
theorem zr_4_65 : zCok 4 (65, 0, 1, zm_Fault_hasOrderWithout) := ⟨zo_zm_Fault_hasOrderWithout, fun _ => ⟨zmr 4012 rfl rfl, zmr 4014 rfl rfl, zmr 25 rfl rfl, by decide⟩, fun h => absurd h (by decide), fun h => absurd h (by decide), fun h => absurd h (by decide)⟩
theorem zr_4_69 : zCok 4 (69, 0, 0, zm_Fault_hasNoCycle) := ⟨zo_zm_Fault_hasNoCycle, fun _ => ⟨zmr 4016 rfl rfl, zmr 4018 rfl rfl, zmr 26 rfl rfl, by decide⟩, fun h => absurd h (by decide), fun h => absurd h (by decide), fun h => absurd h (by decide)⟩
theorem zCo4 : ∀ e ∈ zCT4, zCok 4 e := List.forall_mem_cons.mpr ⟨zr_4_34, List.forall_mem_cons.mpr ⟨zr_4_40, List.forall_mem_cons.mpr ⟨zr_4_44, List.forall_mem_cons.mpr ⟨zr_4_47, List.forall_mem_cons.mpr ⟨zr_4_51, List.forall_mem_cons.mpr ⟨zr_4_55, List.forall_mem_cons.mpr ⟨zr_4_59, List.forall_mem_cons.mpr ⟨zr_4_65, List.forall_mem_cons.mpr ⟨zr_4_69, fun _ h => absurd h List.not_mem_nil⟩⟩⟩⟩⟩⟩⟩⟩⟩
theorem zr_5_22 : zCok 5 (22, 0, 0, zm_Chrono_builtFor) := ⟨zo_zm_Chrono_builtFor, fun _ => ⟨zmr 3203 rfl rfl, zmr 3204 rfl rfl, zmr 3205 rfl rfl, by decide⟩, fun h => absurd h (by decide), fun h => absurd h (by decide), fun h => absurd h (by decide)⟩
theorem zr_5_27 : zCok 5 (27, 1, 4, zm_Presses_assign) := ⟨zo_zm_Presses_assign, fun h => absurd h (by decide), fun _ => ⟨zmr 3207 rfl rfl, zmr 3208 rfl rfl⟩, fun h => absurd h (by decide), fun h => absurd h (by decide)⟩
theorem zr_5_31 : zCok 5 (31, 0, 1, zm_Chrono_typesOn) := ⟨zo_zm_Chrono_typesOn, fun _ => ⟨zmr 3210 rfl rfl, zmr 3178 rfl rfl, zmr 3179 rfl rfl, by decide⟩, fun h => absurd h (by decide), fun h => absurd h (by decide), fun h => absurd h (by decide)⟩
theorem zr_5_35 : zCok 5 (35, 1, 3, zm_Presses_fits) := ⟨zo_zm_Presses_fits, fun h => absurd h (by decide), fun _ => ⟨zmr 3211 rfl rfl, zmr 3212 rfl rfl⟩, fun h => absurd h (by decide), fun h => absurd h (by decide)⟩
theorem zr_5_39 : zCok 5 (39, 0, 1, zm_Chrono_companionsOf) := ⟨zo_zm_Chrono_companionsOf, fun _ => ⟨zmr 3214 rfl rfl, zmr 3187 rfl rfl, zmr 3188 rfl rfl, by decide⟩, fun h => absurd h (by decide), fun h => absurd h (by decide), fun h => absurd h (by decide)⟩
theorem zCo5 : ∀ e ∈ zCT5, zCok 5 e := List.forall_mem_cons.mpr ⟨zr_5_22, List.forall_mem_cons.mpr ⟨zr_5_27, List.forall_mem_cons.mpr ⟨zr_5_31, List.forall_mem_cons.mpr ⟨zr_5_35, List.forall_mem_cons.mpr ⟨zr_5_39, fun _ h => absurd h List.not_mem_nil⟩⟩⟩⟩⟩
theorem zr_6_23 : zCok 6 (23, 0, 1, zm_Sight_has) := ⟨zo_zm_Sight_has, fun _ => ⟨zmr 3122 rfl rfl, zmr 3115 rfl rfl, zmr 3116 rfl rfl, by decide⟩, fun h => absurd h (by decide), fun h => absurd h (by decide), fun h => absurd h (by decide)⟩
theorem zCo6 : ∀ e ∈ zCT6, zCok 6 e := List.forall_mem_cons.mpr ⟨zr_6_23, fun _ h => absurd h List.not_mem_nil⟩
theorem zr_7_51 : zCok 7 (51, 0, 0, zm_Coll_changes) := ⟨zo_zm_Coll_changes, fun _ => ⟨zmr 2114 rfl rfl, zmr 2115 rfl rfl, zmr 2116 rfl rfl, by decide⟩, fun h => absurd h (by decide), fun h => absurd h (by decide), fun h => absurd h (by decide)⟩
theorem zr_7_57 : zCok 7 (57, 0, 0, zm_Coll_size) := ⟨zo_zm_Coll_size, fun _ => ⟨zmr 2118 rfl rfl, zmr 2048 rfl rfl, zmr 2049 rfl rfl, by decide⟩, fun h => absurd h (by decide), fun h => absurd h (by decide), fun h => absurd h (by decide)⟩
theorem zr_7_59 : zCok 7 (59, 0, 1, zm_Coll_text) := ⟨zo_zm_Coll_text, fun _ => ⟨zmr 2119 rfl rfl, zmr 2081 rfl rfl, zmr 2082 rfl rfl, by decide⟩, fun h => absurd h (by decide), fun h => absurd h (by decide), fun h => absurd h (by decide)⟩
theorem zr_7_63 : zCok 7 (63, 0, 0, zm_Text_size) := ⟨zo_zm_Text_size, fun _ => ⟨zmr 2120 rfl rfl, zmr 2024 rfl rfl, zmr 2025 rfl rfl, by decide⟩, fun h => absurd h (by decide), fun h => absurd h (by decide), fun h => absurd h (by decide)⟩
theorem zr_7_66 : zCok 7 (66, 0, 2, zm_Coll_best) := ⟨zo_zm_Coll_best, fun _ => ⟨zmr 2121 rfl rfl, zmr 2122 rfl rfl, zmr 2123 rfl rfl, by decide⟩, fun h => absurd h (by decide), fun h => absurd h (by decide), fun h => absurd h (by decide)⟩
theorem zr_7_70 : zCok 7 (70, 0, 0, zm_Alignment_isFound) := ⟨zo_zm_Alignment_isFound, fun _ => ⟨zmr 2169 rfl rfl, zmr 2170 rfl rfl, zmr 2171 rfl rfl, by decide⟩, fun h => absurd h (by decide), fun h => absurd h (by decide), fun h => absurd h (by decide)⟩
theorem zr_7_76 : zCok 7 (76, 0, 3, zm_Stemma_read) := ⟨zo_zm_Stemma_read, fun _ => ⟨zmr 2173 rfl rfl, zmr 2175 rfl rfl, zmr 2 rfl rfl, by decide⟩, fun h => absurd h (by decide), fun h => absurd h (by decide), fun h => absurd h (by decide)⟩
theorem zr_7_80 : zCok 7 (80, 0, 1, zm_Stemma_group) := ⟨zo_zm_Stemma_group, fun _ => ⟨zmr 2191 rfl rfl, zmr 2193 rfl rfl, zmr 3 rfl rfl, by decide⟩, fun h => absurd h (by decide), fun h => absurd h (by decide), fun h => absurd h (by decide)⟩
theorem zr_7_84 : zCok 7 (84, 0, 0, zm_Stemma_connect) := ⟨zo_zm_Stemma_connect, fun _ => ⟨zmr 2203 rfl rfl, zmr 2205 rfl rfl, zmr 4 rfl rfl, by decide⟩, fun h => absurd h (by decide), fun h => absurd h (by decide), fun h => absurd h (by decide)⟩
theorem zr_7_87 : zCok 7 (87, 0, 0, zm_Stemma_findReverted) := ⟨zo_zm_Stemma_findReverted, fun _ => ⟨zmr 2219 rfl rfl, zmr 2221 rfl rfl, zmr 6 rfl rfl, by decide⟩, fun h => absurd h (by decide), fun h => absurd h (by decide), fun h => absurd h (by decide)⟩
theorem zr_7_90 : zCok 7 (90, 0, 0, zm_Alignment_length) := ⟨zo_zm_Alignment_length, fun _ => ⟨zmr 2177 rfl rfl, zmr 2178 rfl rfl, zmr 2179 rfl rfl, by decide⟩, fun h => absurd h (by decide), fun h => absurd h (by decide), fun h => absurd h (by decide)⟩
theorem zr_7_93 : zCok 7 (93, 0, 1, zm_Alignment_stepAt) := ⟨zo_zm_Alignment_stepAt, fun _ => ⟨zmr 2181 rfl rfl, zmr 2182 rfl rfl, zmr 2183 rfl rfl, by decide⟩, fun h => absurd h (by decide), fun h => absurd h (by decide), fun h => absurd h (by decide)⟩
theorem zr_7_97 : zCok 7 (97, 0, 1, zm_Text_at) := ⟨zo_zm_Text_at, fun _ => ⟨zmr 2190 rfl rfl, zmr 2064 rfl rfl, zmr 2065 rfl rfl, by decide⟩, fun h => absurd h (by decide), fun h => absurd h (by decide), fun h => absurd h (by decide)⟩
theorem zr_7_100 : zCok 7 (100, 0, 2, zm_Stemma_differences) := ⟨zo_zm_Stemma_differences, fun _ => ⟨zmr 2195 rfl rfl, zmr 2196 rfl rfl, zmr 2197 rfl rfl, by decide⟩, fun h => absurd h (by decide), fun h => absurd h (by decide), fun h => absurd h (by decide)⟩
theorem zr_7_104 : zCok 7 (104, 0, 1, zm_Stemma_joinNearest) := ⟨zo_zm_Stemma_joinNearest, fun _ => ⟨zmr 2207 rfl rfl, zmr 2209 rfl rfl, zmr 5 rfl rfl, by decide⟩, fun h => absurd h (by decide), fun h => absurd h (by decide), fun h => absurd h (by decide)⟩
theorem zr_7_107 : zCok 7 (107, 0, 2, zm_Stemma_distance) := ⟨zo_zm_Stemma_distance, fun _ => ⟨zmr 2211 rfl rfl, zmr 2212 rfl rfl, zmr 2213 rfl rfl, by decide⟩, fun h => absurd h (by decide), fun h => absurd h (by decide), fun h => absurd h (by decide)⟩
theorem zr_7_110 : zCok 7 (110, 0, 2, zm_Stemma_goesBack) := ⟨zo_zm_Stemma_goesBack, fun _ => ⟨zmr 2223 rfl rfl, zmr 2225 rfl rfl, zmr 7 rfl rfl, by decide⟩, fun h => absurd h (by decide), fun h => absurd h (by decide), fun h => absurd h (by decide)⟩
theorem zr_7_114 : zCok 7 (114, 0, 2, zm_Stemma_readingOfState) := ⟨zo_zm_Stemma_readingOfState, fun _ => ⟨zmr 2227 rfl rfl, zmr 2229 rfl rfl, zmr 8 rfl rfl, by decide⟩, fun h => absurd h (by decide), fun h => absurd h (by decide), fun h => absurd h (by decide)⟩
theorem zr_7_117 : zCok 7 (117, 0, 1, zm_Stemma_parentOf) := ⟨zo_zm_Stemma_parentOf, fun _ => ⟨zmr 2231 rfl rfl, zmr 2233 rfl rfl, zmr 9 rfl rfl, by decide⟩, fun h => absurd h (by decide), fun h => absurd h (by decide), fun h => absurd h (by decide)⟩
theorem zr_7_120 : zCok 7 (120, 0, 1, zm_Stemma_stateOfCopy) := ⟨zo_zm_Stemma_stateOfCopy, fun _ => ⟨zmr 3003 rfl rfl, zmr 3004 rfl rfl, zmr 3005 rfl rfl, by decide⟩, fun h => absurd h (by decide), fun h => absurd h (by decide), fun h => absurd h (by decide)⟩
theorem zr_7_122 : zCok 7 (122, 0, 2, zm_Stemma_readingAt) := ⟨zo_zm_Stemma_readingAt, fun _ => ⟨zmr 2199 rfl rfl, zmr 2200 rfl rfl, zmr 2201 rfl rfl, by decide⟩, fun h => absurd h (by decide), fun h => absurd h (by decide), fun h => absurd h (by decide)⟩
theorem zr_7_125 : zCok 7 (125, 0, 1, zm_Stemma_has) := ⟨zo_zm_Stemma_has, fun _ => ⟨zmr 2215 rfl rfl, zmr 2216 rfl rfl, zmr 2217 rfl rfl, by decide⟩, fun h => absurd h (by decide), fun h => absurd h (by decide), fun h => absurd h (by decide)⟩
theorem zr_7_129 : zCok 7 (129, 0, 1, zm_Stemma_ancestors) := ⟨zo_zm_Stemma_ancestors, fun _ => ⟨zmr 3077 rfl rfl, zmr 3079 rfl rfl, zmr 15 rfl rfl, by decide⟩, fun h => absurd h (by decide), fun h => absurd h (by decide), fun h => absurd h (by decide)⟩
theorem zr_7_132 : zCok 7 (132, 1, 1, zm_Int_bitCount) := ⟨zo_zm_Int_bitCount, fun h => absurd h (by decide), fun _ => ⟨zmr 3058 rfl rfl, zmr 3059 rfl rfl⟩, fun h => absurd h (by decide), fun h => absurd h (by decide)⟩
theorem zr_7_137 : zCok 7 (137, 0, 0, zm_Stemma_length) := ⟨zo_zm_Stemma_length, fun _ => ⟨zmr 3046 rfl rfl, zmr 3048 rfl rfl, zmr 11 rfl rfl, by decide⟩, fun h => absurd h (by decide), fun h => absurd h (by decide), fun h => absurd h (by decide)⟩
theorem zr_7_138 : zCok 7 (138, 0, 0, zm_Stemma_variedPlaces) := ⟨zo_zm_Stemma_variedPlaces, fun _ => ⟨zmr 3050 rfl rfl, zmr 3052 rfl rfl, zmr 12 rfl rfl, by decide⟩, fun h => absurd h (by decide), fun h => absurd h (by decide), fun h => absurd h (by decide)⟩
theorem zr_7_141 : zCok 7 (141, 0, 0, zm_Stemma_reversions) := ⟨zo_zm_Stemma_reversions, fun _ => ⟨zmr 3054 rfl rfl, zmr 3056 rfl rfl, zmr 13 rfl rfl, by decide⟩, fun h => absurd h (by decide), fun h => absurd h (by decide), fun h => absurd h (by decide)⟩
theorem zr_7_144 : zCok 7 (144, 0, 0, zm_Stemma_leaves) := ⟨zo_zm_Stemma_leaves, fun _ => ⟨zmr 3064 rfl rfl, zmr 3066 rfl rfl, zmr 14 rfl rfl, by decide⟩, fun h => absurd h (by decide), fun h => absurd h (by decide), fun h => absurd h (by decide)⟩
theorem zCo7 : ∀ e ∈ zCT7, zCok 7 e := List.forall_mem_cons.mpr ⟨zr_7_51, List.forall_mem_cons.mpr ⟨zr_7_57, List.forall_mem_cons.mpr ⟨zr_7_59, List.forall_mem_cons.mpr ⟨zr_7_63, List.forall_mem_cons.mpr ⟨zr_7_66, List.forall_mem_cons.mpr ⟨zr_7_70, List.forall_mem_cons.mpr ⟨zr_7_76, List.forall_mem_cons.mpr ⟨zr_7_80, List.forall_mem_cons.mpr ⟨zr_7_84, List.forall_mem_cons.mpr ⟨zr_7_87, List.forall_mem_cons.mpr ⟨zr_7_90, List.forall_mem_cons.mpr ⟨zr_7_93, List.forall_mem_cons.mpr ⟨zr_7_97, List.forall_mem_cons.mpr ⟨zr_7_100, List.forall_mem_cons.mpr ⟨zr_7_104, List.forall_mem_cons.mpr ⟨zr_7_107, List.forall_mem_cons.mpr ⟨zr_7_110, List.forall_mem_cons.mpr ⟨zr_7_114, List.forall_mem_cons.mpr ⟨zr_7_117, List.forall_mem_cons.mpr ⟨zr_7_120, List.forall_mem_cons.mpr ⟨zr_7_122, List.forall_mem_cons.mpr ⟨zr_7_125, List.forall_mem_cons.mpr ⟨zr_7_129, List.forall_mem_cons.mpr ⟨zr_7_132, List.forall_mem_cons.mpr ⟨zr_7_137, List.forall_mem_cons.mpr ⟨zr_7_138, List.forall_mem_cons.mpr ⟨zr_7_141, List.forall_mem_cons.mpr ⟨zr_7_144, fun _ h => absurd h List.not_mem_nil⟩⟩⟩⟩⟩⟩⟩⟩⟩⟩⟩⟩⟩⟩⟩⟩⟩⟩⟩⟩⟩⟩⟩⟩⟩⟩⟩⟩
theorem zr_8_19 : zCok 8 (19, 0, 0, zm_Text_size) := ⟨zo_zm_Text_size, fun _ => ⟨zmr 2062 rfl rfl, zmr 2024 rfl rfl, zmr 2025 rfl rfl, by decide⟩, fun h => absurd h (by decide), fun h => absurd h (by decide), fun h => absurd h (by decide)⟩
theorem zr_8_23 : zCok 8 (23, 0, 1, zm_Text_at) := ⟨zo_zm_Text_at, fun _ => ⟨zmr 2063 rfl rfl, zmr 2064 rfl rfl, zmr 2065 rfl rfl, by decide⟩, fun h => absurd h (by decide), fun h => absurd h (by decide), fun h => absurd h (by decide)⟩
theorem zr_8_27 : zCok 8 (27, 0, 1, zm_Text_append) := ⟨zo_zm_Text_append, fun _ => ⟨zmr 2067 rfl rfl, zmr 2028 rfl rfl, zmr 2029 rfl rfl, by decide⟩, fun h => absurd h (by decide), fun h => absurd h (by decide), fun h => absurd h (by decide)⟩
theorem zCo8 : ∀ e ∈ zCT8, zCok 8 e := List.forall_mem_cons.mpr ⟨zr_8_19, List.forall_mem_cons.mpr ⟨zr_8_23, List.forall_mem_cons.mpr ⟨zr_8_27, fun _ h => absurd h List.not_mem_nil⟩⟩⟩
theorem zr_9_9 : zCok 9 (9, 3, 0, zm_Text_init) := ⟨zo_zm_Text_init, fun h => absurd h (by decide), fun h => absurd h (by decide), fun h => absurd h (by decide), fun _ => ⟨List.mem_of_getElem? (i := 0) rfl, zmr 1025 rfl rfl, rfl, rfl⟩⟩
theorem zr_9_18 : zCok 9 (18, 2, 0, zm_Coll_init) := ⟨zo_zm_Coll_init, fun h => absurd h (by decide), fun h => absurd h (by decide), fun _ => ⟨zmr 1038 rfl rfl, zmr 1039 rfl rfl, rfl, rfl⟩, fun h => absurd h (by decide)⟩
theorem zr_9_25 : zCok 9 (25, 3, 0, zm_Stemma_init) := ⟨zo_zm_Stemma_init, fun h => absurd h (by decide), fun h => absurd h (by decide), fun h => absurd h (by decide), fun _ => ⟨List.mem_of_getElem? (i := 4) rfl, zmr 1097 rfl rfl, rfl, rfl⟩⟩
theorem zr_9_32 : zCok 9 (32, 3, 0, zm_Sight_init) := ⟨zo_zm_Sight_init, fun h => absurd h (by decide), fun h => absurd h (by decide), fun h => absurd h (by decide), fun _ => ⟨List.mem_of_getElem? (i := 5) rfl, zmr 1142 rfl rfl, rfl, rfl⟩⟩
theorem zr_9_39 : zCok 9 (39, 3, 0, zm_Chrono_init) := ⟨zo_zm_Chrono_init, fun h => absurd h (by decide), fun h => absurd h (by decide), fun h => absurd h (by decide), fun _ => ⟨List.mem_of_getElem? (i := 6) rfl, zmr 1159 rfl rfl, rfl, rfl⟩⟩
theorem zr_9_46 : zCok 9 (46, 3, 0, zm_Fault_init) := ⟨zo_zm_Fault_init, fun h => absurd h (by decide), fun h => absurd h (by decide), fun h => absurd h (by decide), fun _ => ⟨List.mem_of_getElem? (i := 7) rfl, zmr 1190 rfl rfl, rfl, rfl⟩⟩
theorem zr_9_53 : zCok 9 (53, 3, 0, zm_Presses_init) := ⟨zo_zm_Presses_init, fun h => absurd h (by decide), fun h => absurd h (by decide), fun h => absurd h (by decide), fun _ => ⟨List.mem_of_getElem? (i := 8) rfl, zmr 1218 rfl rfl, rfl, rfl⟩⟩
theorem zr_9_65 : zCok 9 (65, 0, 0, zm_Text_size) := ⟨zo_zm_Text_size, fun _ => ⟨zmr 2023 rfl rfl, zmr 2024 rfl rfl, zmr 2025 rfl rfl, by decide⟩, fun h => absurd h (by decide), fun h => absurd h (by decide), fun h => absurd h (by decide)⟩
theorem zr_9_69 : zCok 9 (69, 0, 1, zm_Text_append) := ⟨zo_zm_Text_append, fun _ => ⟨zmr 2027 rfl rfl, zmr 2028 rfl rfl, zmr 2029 rfl rfl, by decide⟩, fun h => absurd h (by decide), fun h => absurd h (by decide), fun h => absurd h (by decide)⟩
theorem zr_9_73 : zCok 9 (73, 0, 0, zm_Text_clear) := ⟨zo_zm_Text_clear, fun _ => ⟨zmr 2035 rfl rfl, zmr 2036 rfl rfl, zmr 2037 rfl rfl, by decide⟩, fun h => absurd h (by decide), fun h => absurd h (by decide), fun h => absurd h (by decide)⟩
theorem zr_9_76 : zCok 9 (76, 0, 0, zm_Text_isWord) := ⟨zo_zm_Text_isWord, fun _ => ⟨zmr 2043 rfl rfl, zmr 2044 rfl rfl, zmr 2045 rfl rfl, by decide⟩, fun h => absurd h (by decide), fun h => absurd h (by decide), fun h => absurd h (by decide)⟩
theorem zr_9_80 : zCok 9 (80, 0, 0, zm_Coll_size) := ⟨zo_zm_Coll_size, fun _ => ⟨zmr 2047 rfl rfl, zmr 2048 rfl rfl, zmr 2049 rfl rfl, by decide⟩, fun h => absurd h (by decide), fun h => absurd h (by decide), fun h => absurd h (by decide)⟩
theorem zr_9_81 : zCok 9 (81, 0, 2, zm_Coll_put) := ⟨zo_zm_Coll_put, fun _ => ⟨zmr 2051 rfl rfl, zmr 2052 rfl rfl, zmr 2053 rfl rfl, by decide⟩, fun h => absurd h (by decide), fun h => absurd h (by decide), fun h => absurd h (by decide)⟩
theorem zr_9_85 : zCok 9 (85, 0, 1, zm_Coll_has) := ⟨zo_zm_Coll_has, fun _ => ⟨zmr 2076 rfl rfl, zmr 2077 rfl rfl, zmr 2078 rfl rfl, by decide⟩, fun h => absurd h (by decide), fun h => absurd h (by decide), fun h => absurd h (by decide)⟩
theorem zr_9_89 : zCok 9 (89, 0, 1, zm_Coll_text) := ⟨zo_zm_Coll_text, fun _ => ⟨zmr 2080 rfl rfl, zmr 2081 rfl rfl, zmr 2082 rfl rfl, by decide⟩, fun h => absurd h (by decide), fun h => absurd h (by decide), fun h => absurd h (by decide)⟩
theorem zr_9_93 : zCok 9 (93, 0, 0, zm_Coll_removeLast) := ⟨zo_zm_Coll_removeLast, fun _ => ⟨zmr 2089 rfl rfl, zmr 2090 rfl rfl, zmr 2091 rfl rfl, by decide⟩, fun h => absurd h (by decide), fun h => absurd h (by decide), fun h => absurd h (by decide)⟩
theorem zr_9_96 : zCok 9 (96, 0, 0, zm_Coll_reach) := ⟨zo_zm_Coll_reach, fun _ => ⟨zmr 2098 rfl rfl, zmr 2099 rfl rfl, zmr 2100 rfl rfl, by decide⟩, fun h => absurd h (by decide), fun h => absurd h (by decide), fun h => absurd h (by decide)⟩
theorem zr_9_99 : zCok 9 (99, 0, 1, zm_Coll_setReach) := ⟨zo_zm_Coll_setReach, fun _ => ⟨zmr 2102 rfl rfl, zmr 2103 rfl rfl, zmr 2104 rfl rfl, by decide⟩, fun h => absurd h (by decide), fun h => absurd h (by decide), fun h => absurd h (by decide)⟩
theorem zr_9_102 : zCok 9 (102, 0, 1, zm_Stemma_build) := ⟨zo_zm_Stemma_build, fun _ => ⟨zmr 2110 rfl rfl, zmr 2111 rfl rfl, zmr 2112 rfl rfl, by decide⟩, fun h => absurd h (by decide), fun h => absurd h (by decide), fun h => absurd h (by decide)⟩
theorem zr_9_106 : zCok 9 (106, 0, 2, zm_P_describeCopy) := ⟨zo_zm_P_describeCopy, fun _ => ⟨zmr 2235 rfl rfl, zmr 2237 rfl rfl, zmr 10 rfl rfl, by decide⟩, fun h => absurd h (by decide), fun h => absurd h (by decide), fun h => absurd h (by decide)⟩
theorem zr_9_110 : zCok 9 (110, 0, 1, zm_Text_has) := ⟨zo_zm_Text_has, fun _ => ⟨zmr 3018 rfl rfl, zmr 3019 rfl rfl, zmr 3020 rfl rfl, by decide⟩, fun h => absurd h (by decide), fun h => absurd h (by decide), fun h => absurd h (by decide)⟩
theorem zr_9_111 : zCok 9 (111, 0, 1, zm_Text_at) := ⟨zo_zm_Text_at, fun _ => ⟨zmr 3022 rfl rfl, zmr 2064 rfl rfl, zmr 2065 rfl rfl, by decide⟩, fun h => absurd h (by decide), fun h => absurd h (by decide), fun h => absurd h (by decide)⟩
theorem zr_9_115 : zCok 9 (115, 0, 2, zm_Coll_best) := ⟨zo_zm_Coll_best, fun _ => ⟨zmr 3008 rfl rfl, zmr 2122 rfl rfl, zmr 2123 rfl rfl, by decide⟩, fun h => absurd h (by decide), fun h => absurd h (by decide), fun h => absurd h (by decide)⟩
theorem zr_9_119 : zCok 9 (119, 0, 1, zm_Alignment_tally) := ⟨zo_zm_Alignment_tally, fun _ => ⟨zmr 3009 rfl rfl, zmr 3010 rfl rfl, zmr 3011 rfl rfl, by decide⟩, fun h => absurd h (by decide), fun h => absurd h (by decide), fun h => absurd h (by decide)⟩
theorem zr_9_124 : zCok 9 (124, 0, 1, zm_Alignment_hasStep) := ⟨zo_zm_Alignment_hasStep, fun _ => ⟨zmr 3031 rfl rfl, zmr 2186 rfl rfl, zmr 2187 rfl rfl, by decide⟩, fun h => absurd h (by decide), fun h => absurd h (by decide), fun h => absurd h (by decide)⟩
theorem zr_9_127 : zCok 9 (127, 0, 1, zm_Alignment_stepAt) := ⟨zo_zm_Alignment_stepAt, fun _ => ⟨zmr 3032 rfl rfl, zmr 2182 rfl rfl, zmr 2183 rfl rfl, by decide⟩, fun h => absurd h (by decide), fun h => absurd h (by decide), fun h => absurd h (by decide)⟩
theorem zr_9_130 : zCok 9 (130, 0, 1, zm_Stemma_isExcluded) := ⟨zo_zm_Stemma_isExcluded, fun _ => ⟨zmr 2239 rfl rfl, zmr 3000 rfl rfl, zmr 3001 rfl rfl, by decide⟩, fun h => absurd h (by decide), fun h => absurd h (by decide), fun h => absurd h (by decide)⟩
theorem zr_9_133 : zCok 9 (133, 0, 2, zm_Stemma_readingAt) := ⟨zo_zm_Stemma_readingAt, fun _ => ⟨zmr 3037 rfl rfl, zmr 2200 rfl rfl, zmr 2201 rfl rfl, by decide⟩, fun h => absurd h (by decide), fun h => absurd h (by decide), fun h => absurd h (by decide)⟩
theorem zr_9_136 : zCok 9 (136, 0, 1, zm_Stemma_describeAll) := ⟨zo_zm_Stemma_describeAll, fun _ => ⟨zmr 3042 rfl rfl, zmr 3043 rfl rfl, zmr 3044 rfl rfl, by decide⟩, fun h => absurd h (by decide), fun h => absurd h (by decide), fun h => absurd h (by decide)⟩
theorem zr_9_139 : zCok 9 (139, 0, 1, zm_Stemma_has) := ⟨zo_zm_Stemma_has, fun _ => ⟨zmr 3072 rfl rfl, zmr 2216 rfl rfl, zmr 2217 rfl rfl, by decide⟩, fun h => absurd h (by decide), fun h => absurd h (by decide), fun h => absurd h (by decide)⟩
theorem zr_9_140 : zCok 9 (140, 0, 2, zm_Stemma_describe) := ⟨zo_zm_Stemma_describe, fun _ => ⟨zmr 3073 rfl rfl, zmr 3074 rfl rfl, zmr 3075 rfl rfl, by decide⟩, fun h => absurd h (by decide), fun h => absurd h (by decide), fun h => absurd h (by decide)⟩
theorem zr_9_143 : zCok 9 (143, 0, 2, zm_Stemma_distance) := ⟨zo_zm_Stemma_distance, fun _ => ⟨zmr 3085 rfl rfl, zmr 2212 rfl rfl, zmr 2213 rfl rfl, by decide⟩, fun h => absurd h (by decide), fun h => absurd h (by decide), fun h => absurd h (by decide)⟩
theorem zr_9_146 : zCok 9 (146, 0, 2, zm_Stemma_isReverted) := ⟨zo_zm_Stemma_isReverted, fun _ => ⟨zmr 3090 rfl rfl, zmr 3091 rfl rfl, zmr 3092 rfl rfl, by decide⟩, fun h => absurd h (by decide), fun h => absurd h (by decide), fun h => absurd h (by decide)⟩
theorem zr_9_150 : zCok 9 (150, 0, 3, zm_Sight_clash) := ⟨zo_zm_Sight_clash, fun _ => ⟨zmr 3098 rfl rfl, zmr 3099 rfl rfl, zmr 3100 rfl rfl, by decide⟩, fun h => absurd h (by decide), fun h => absurd h (by decide), fun h => absurd h (by decide)⟩
theorem zr_9_154 : zCok 9 (154, 0, 0, zm_Sight_size) := ⟨zo_zm_Sight_size, fun _ => ⟨zmr 3102 rfl rfl, zmr 3103 rfl rfl, zmr 3104 rfl rfl, by decide⟩, fun h => absurd h (by decide), fun h => absurd h (by decide), fun h => absurd h (by decide)⟩
theorem zr_9_155 : zCok 9 (155, 0, 4, zm_Sight_add) := ⟨zo_zm_Sight_add, fun _ => ⟨zmr 3106 rfl rfl, zmr 3107 rfl rfl, zmr 3108 rfl rfl, by decide⟩, fun h => absurd h (by decide), fun h => absurd h (by decide), fun h => absurd h (by decide)⟩
theorem zr_9_159 : zCok 9 (159, 0, 1, zm_Sight_has) := ⟨zo_zm_Sight_has, fun _ => ⟨zmr 3114 rfl rfl, zmr 3115 rfl rfl, zmr 3116 rfl rfl, by decide⟩, fun h => absurd h (by decide), fun h => absurd h (by decide), fun h => absurd h (by decide)⟩
theorem zr_9_160 : zCok 9 (160, 0, 1, zm_Sight_remove) := ⟨zo_zm_Sight_remove, fun _ => ⟨zmr 3118 rfl rfl, zmr 3119 rfl rfl, zmr 3120 rfl rfl, by decide⟩, fun h => absurd h (by decide), fun h => absurd h (by decide), fun h => absurd h (by decide)⟩
theorem zr_9_163 : zCok 9 (163, 0, 2, zm_Sight_get) := ⟨zo_zm_Sight_get, fun _ => ⟨zmr 3127 rfl rfl, zmr 3128 rfl rfl, zmr 3129 rfl rfl, by decide⟩, fun h => absurd h (by decide), fun h => absurd h (by decide), fun h => absurd h (by decide)⟩
theorem zr_9_166 : zCok 9 (166, 0, 2, zm_P_describeForme) := ⟨zo_zm_P_describeForme, fun _ => ⟨zmr 3135 rfl rfl, zmr 3137 rfl rfl, zmr 16 rfl rfl, by decide⟩, fun h => absurd h (by decide), fun h => absurd h (by decide), fun h => absurd h (by decide)⟩
theorem zr_9_169 : zCok 9 (169, 0, 1, zm_P_describeFormes) := ⟨zo_zm_P_describeFormes, fun _ => ⟨zmr 3223 rfl rfl, zmr 3225 rfl rfl, zmr 22 rfl rfl, by decide⟩, fun h => absurd h (by decide), fun h => absurd h (by decide), fun h => absurd h (by decide)⟩
theorem zr_9_172 : zCok 9 (172, 0, 1, zm_Chrono_build) := ⟨zo_zm_Chrono_build, fun _ => ⟨zmr 3139 rfl rfl, zmr 3140 rfl rfl, zmr 3141 rfl rfl, by decide⟩, fun h => absurd h (by decide), fun h => absurd h (by decide), fun h => absurd h (by decide)⟩
theorem zr_9_175 : zCok 9 (175, 0, 1, zm_Chrono_hasPlace) := ⟨zo_zm_Chrono_hasPlace, fun _ => ⟨zmr 4036 rfl rfl, zmr 4037 rfl rfl, zmr 4038 rfl rfl, by decide⟩, fun h => absurd h (by decide), fun h => absurd h (by decide), fun h => absurd h (by decide)⟩
theorem zr_9_178 : zCok 9 (178, 0, 1, zm_Chrono_formeAt) := ⟨zo_zm_Chrono_formeAt, fun _ => ⟨zmr 4040 rfl rfl, zmr 4041 rfl rfl, zmr 4042 rfl rfl, by decide⟩, fun h => absurd h (by decide), fun h => absurd h (by decide), fun h => absurd h (by decide)⟩
theorem zr_9_183 : zCok 9 (183, 0, 1, zm_P_hashCopies) := ⟨zo_zm_P_hashCopies, fun _ => ⟨zmr 4054 rfl rfl, zmr 4056 rfl rfl, zmr 27 rfl rfl, by decide⟩, fun h => absurd h (by decide), fun h => absurd h (by decide), fun h => absurd h (by decide)⟩
theorem zr_9_187 : zCok 9 (187, 0, 1, zm_P_hashPairs) := ⟨zo_zm_P_hashPairs, fun _ => ⟨zmr 4059 rfl rfl, zmr 4061 rfl rfl, zmr 28 rfl rfl, by decide⟩, fun h => absurd h (by decide), fun h => absurd h (by decide), fun h => absurd h (by decide)⟩
theorem zr_9_190 : zCok 9 (190, 0, 1, zm_P_hashStates) := ⟨zo_zm_P_hashStates, fun _ => ⟨zmr 4063 rfl rfl, zmr 4065 rfl rfl, zmr 29 rfl rfl, by decide⟩, fun h => absurd h (by decide), fun h => absurd h (by decide), fun h => absurd h (by decide)⟩
theorem zr_9_193 : zCok 9 (193, 0, 1, zm_P_hashSightings) := ⟨zo_zm_P_hashSightings, fun _ => ⟨zmr 4071 rfl rfl, zmr 4073 rfl rfl, zmr 30 rfl rfl, by decide⟩, fun h => absurd h (by decide), fun h => absurd h (by decide), fun h => absurd h (by decide)⟩
theorem zr_9_196 : zCok 9 (196, 0, 1, zm_P_hashFormes) := ⟨zo_zm_P_hashFormes, fun _ => ⟨zmr 4075 rfl rfl, zmr 4077 rfl rfl, zmr 31 rfl rfl, by decide⟩, fun h => absurd h (by decide), fun h => absurd h (by decide), fun h => absurd h (by decide)⟩
theorem zr_9_201 : zCok 9 (201, 0, 1, zm_P_count) := ⟨zo_zm_P_count, fun _ => ⟨zmr 4080 rfl rfl, zmr 4046 rfl rfl, zmr 4047 rfl rfl, by decide⟩, fun h => absurd h (by decide), fun h => absurd h (by decide), fun h => absurd h (by decide)⟩
theorem zr_9_204 : zCok 9 (204, 0, 0, zm_Stemma_size) := ⟨zo_zm_Stemma_size, fun _ => ⟨zmr 4067 rfl rfl, zmr 4068 rfl rfl, zmr 4069 rfl rfl, by decide⟩, fun h => absurd h (by decide), fun h => absurd h (by decide), fun h => absurd h (by decide)⟩
theorem zr_9_205 : zCok 9 (205, 0, 0, zm_Chrono_orderLength) := ⟨zo_zm_Chrono_orderLength, fun _ => ⟨zmr 4079 rfl rfl, zmr 3195 rfl rfl, zmr 3196 rfl rfl, by decide⟩, fun h => absurd h (by decide), fun h => absurd h (by decide), fun h => absurd h (by decide)⟩
theorem zr_9_208 : zCok 9 (208, 0, 1, zm_Stemma_stateOfCopy) := ⟨zo_zm_Stemma_stateOfCopy, fun _ => ⟨zmr 3007 rfl rfl, zmr 3004 rfl rfl, zmr 3005 rfl rfl, by decide⟩, fun h => absurd h (by decide), fun h => absurd h (by decide), fun h => absurd h (by decide)⟩
theorem zr_9_211 : zCok 9 (211, 0, 2, zm_Stemma_differences) := ⟨zo_zm_Stemma_differences, fun _ => ⟨zmr 3013 rfl rfl, zmr 2196 rfl rfl, zmr 2197 rfl rfl, by decide⟩, fun h => absurd h (by decide), fun h => absurd h (by decide), fun h => absurd h (by decide)⟩
theorem zr_9_214 : zCok 9 (214, 0, 1, zm_Chrono_typesOn) := ⟨zo_zm_Chrono_typesOn, fun _ => ⟨zmr 3177 rfl rfl, zmr 3178 rfl rfl, zmr 3179 rfl rfl, by decide⟩, fun h => absurd h (by decide), fun h => absurd h (by decide), fun h => absurd h (by decide)⟩
theorem zr_9_217 : zCok 9 (217, 1, 1, zm_Int_bitCount) := ⟨zo_zm_Int_bitCount, fun h => absurd h (by decide), fun _ => ⟨zmr 3181 rfl rfl, zmr 3059 rfl rfl⟩, fun h => absurd h (by decide), fun h => absurd h (by decide)⟩
theorem zr_9_222 : zCok 9 (222, 0, 1, zm_Chrono_aheadOf) := ⟨zo_zm_Chrono_aheadOf, fun _ => ⟨zmr 3182 rfl rfl, zmr 3183 rfl rfl, zmr 3184 rfl rfl, by decide⟩, fun h => absurd h (by decide), fun h => absurd h (by decide), fun h => absurd h (by decide)⟩
theorem zr_9_225 : zCok 9 (225, 0, 1, zm_Chrono_companionsOf) := ⟨zo_zm_Chrono_companionsOf, fun _ => ⟨zmr 3186 rfl rfl, zmr 3187 rfl rfl, zmr 3188 rfl rfl, by decide⟩, fun h => absurd h (by decide), fun h => absurd h (by decide), fun h => absurd h (by decide)⟩
theorem zr_9_228 : zCok 9 (228, 0, 1, zm_Chrono_placeOf) := ⟨zo_zm_Chrono_placeOf, fun _ => ⟨zmr 3190 rfl rfl, zmr 3191 rfl rfl, zmr 3192 rfl rfl, by decide⟩, fun h => absurd h (by decide), fun h => absurd h (by decide), fun h => absurd h (by decide)⟩
theorem zr_9_231 : zCok 9 (231, 0, 1, zm_Presses_build) := ⟨zo_zm_Presses_build, fun _ => ⟨zmr 3199 rfl rfl, zmr 3200 rfl rfl, zmr 3201 rfl rfl, by decide⟩, fun h => absurd h (by decide), fun h => absurd h (by decide), fun h => absurd h (by decide)⟩
theorem zr_9_234 : zCok 9 (234, 0, 1, zm_Presses_pressOf) := ⟨zo_zm_Presses_pressOf, fun _ => ⟨zmr 3215 rfl rfl, zmr 3216 rfl rfl, zmr 3217 rfl rfl, by decide⟩, fun h => absurd h (by decide), fun h => absurd h (by decide), fun h => absurd h (by decide)⟩
theorem zr_9_237 : zCok 9 (237, 0, 0, zm_Chrono_seenSet) := ⟨zo_zm_Chrono_seenSet, fun _ => ⟨zmr 3227 rfl rfl, zmr 3228 rfl rfl, zmr 3229 rfl rfl, by decide⟩, fun h => absurd h (by decide), fun h => absurd h (by decide), fun h => absurd h (by decide)⟩
theorem zr_9_240 : zCok 9 (240, 0, 0, zm_Chrono_orders) := ⟨zo_zm_Chrono_orders, fun _ => ⟨zmr 3231 rfl rfl, zmr 3232 rfl rfl, zmr 3233 rfl rfl, by decide⟩, fun h => absurd h (by decide), fun h => absurd h (by decide), fun h => absurd h (by decide)⟩
theorem zr_9_243 : zCok 9 (243, 0, 1, zm_Fault_build) := ⟨zo_zm_Fault_build, fun _ => ⟨zmr 3235 rfl rfl, zmr 3236 rfl rfl, zmr 3237 rfl rfl, by decide⟩, fun h => absurd h (by decide), fun h => absurd h (by decide), fun h => absurd h (by decide)⟩
theorem zr_9_244 : zCok 9 (244, 0, 0, zm_Fault_set) := ⟨zo_zm_Fault_set, fun _ => ⟨zmr 4020 rfl rfl, zmr 4021 rfl rfl, zmr 4022 rfl rfl, by decide⟩, fun h => absurd h (by decide), fun h => absurd h (by decide), fun h => absurd h (by decide)⟩
theorem zr_9_247 : zCok 9 (247, 0, 0, zm_Presses_number) := ⟨zo_zm_Presses_number, fun _ => ⟨zmr 4024 rfl rfl, zmr 4025 rfl rfl, zmr 4026 rfl rfl, by decide⟩, fun h => absurd h (by decide), fun h => absurd h (by decide), fun h => absurd h (by decide)⟩
theorem zr_9_250 : zCok 9 (250, 0, 0, zm_Chrono_typeSet) := ⟨zo_zm_Chrono_typeSet, fun _ => ⟨zmr 4028 rfl rfl, zmr 4029 rfl rfl, zmr 4030 rfl rfl, by decide⟩, fun h => absurd h (by decide), fun h => absurd h (by decide), fun h => absurd h (by decide)⟩
theorem zCo9 : ∀ e ∈ zCT9, zCok 9 e := List.forall_mem_cons.mpr ⟨zr_9_9, List.forall_mem_cons.mpr ⟨zr_9_18, List.forall_mem_cons.mpr ⟨zr_9_25, List.forall_mem_cons.mpr ⟨zr_9_32, List.forall_mem_cons.mpr ⟨zr_9_39, List.forall_mem_cons.mpr ⟨zr_9_46, List.forall_mem_cons.mpr ⟨zr_9_53, List.forall_mem_cons.mpr ⟨zr_9_65, List.forall_mem_cons.mpr ⟨zr_9_69, List.forall_mem_cons.mpr ⟨zr_9_73, List.forall_mem_cons.mpr ⟨zr_9_76, List.forall_mem_cons.mpr ⟨zr_9_80, List.forall_mem_cons.mpr ⟨zr_9_81, List.forall_mem_cons.mpr ⟨zr_9_85, List.forall_mem_cons.mpr ⟨zr_9_89, List.forall_mem_cons.mpr ⟨zr_9_93, List.forall_mem_cons.mpr ⟨zr_9_96, List.forall_mem_cons.mpr ⟨zr_9_99, List.forall_mem_cons.mpr ⟨zr_9_102, List.forall_mem_cons.mpr ⟨zr_9_106, List.forall_mem_cons.mpr ⟨zr_9_110, List.forall_mem_cons.mpr ⟨zr_9_111, List.forall_mem_cons.mpr ⟨zr_9_115, List.forall_mem_cons.mpr ⟨zr_9_119, List.forall_mem_cons.mpr ⟨zr_9_124, List.forall_mem_cons.mpr ⟨zr_9_127, List.forall_mem_cons.mpr ⟨zr_9_130, List.forall_mem_cons.mpr ⟨zr_9_133, List.forall_mem_cons.mpr ⟨zr_9_136, List.forall_mem_cons.mpr ⟨zr_9_139, List.forall_mem_cons.mpr ⟨zr_9_140, List.forall_mem_cons.mpr ⟨zr_9_143, List.forall_mem_cons.mpr ⟨zr_9_146, List.forall_mem_cons.mpr ⟨zr_9_150, List.forall_mem_cons.mpr ⟨zr_9_154, List.forall_mem_cons.mpr ⟨zr_9_155, List.forall_mem_cons.mpr ⟨zr_9_159, List.forall_mem_cons.mpr ⟨zr_9_160, List.forall_mem_cons.mpr ⟨zr_9_163, List.forall_mem_cons.mpr ⟨zr_9_166, List.forall_mem_cons.mpr ⟨zr_9_169, List.forall_mem_cons.mpr ⟨zr_9_172, List.forall_mem_cons.mpr ⟨zr_9_175, List.forall_mem_cons.mpr ⟨zr_9_178, List.forall_mem_cons.mpr ⟨zr_9_183, List.forall_mem_cons.mpr ⟨zr_9_187, List.forall_mem_cons.mpr ⟨zr_9_190, List.forall_mem_cons.mpr ⟨zr_9_193, List.forall_mem_cons.mpr ⟨zr_9_196, List.forall_mem_cons.mpr ⟨zr_9_201, List.forall_mem_cons.mpr ⟨zr_9_204, List.forall_mem_cons.mpr ⟨zr_9_205, List.forall_mem_cons.mpr ⟨zr_9_208, List.forall_mem_cons.mpr ⟨zr_9_211, List.forall_mem_cons.mpr ⟨zr_9_214, List.forall_mem_cons.mpr ⟨zr_9_217, List.forall_mem_cons.mpr ⟨zr_9_222, List.forall_mem_cons.mpr ⟨zr_9_225, List.forall_mem_cons.mpr ⟨zr_9_228, List.forall_mem_cons.mpr ⟨zr_9_231, List.forall_mem_cons.mpr ⟨zr_9_234, List.forall_mem_cons.mpr ⟨zr_9_237, List.forall_mem_cons.mpr ⟨zr_9_240, List.forall_mem_cons.mpr ⟨zr_9_243, List.forall_mem_cons.mpr ⟨zr_9_244, List.forall_mem_cons.mpr ⟨zr_9_247, List.forall_mem_cons.mpr ⟨zr_9_250, fun _ h => absurd h List.not_mem_nil⟩⟩⟩⟩⟩⟩⟩⟩⟩⟩⟩⟩⟩⟩⟩⟩⟩⟩⟩⟩⟩⟩⟩⟩⟩⟩⟩⟩⟩⟩⟩⟩⟩⟩⟩⟩⟩⟩⟩⟩⟩⟩⟩⟩⟩⟩⟩⟩⟩⟩⟩⟩⟩⟩⟩⟩⟩⟩⟩⟩⟩⟩⟩⟩⟩⟩⟩
theorem zr_10_72 : zCok 10 (72, 1, 3, zm_M_within) := ⟨zo_zm_M_within, fun h => absurd h (by decide), fun _ => ⟨zmr 4189 rfl rfl, zmr 4190 rfl rfl⟩, fun h => absurd h (by decide), fun h => absurd h (by decide)⟩
theorem zr_10_82 : zCok 10 (82, 0, 0, zm_M_isCopyPage) := ⟨zo_zm_M_isCopyPage, fun _ => ⟨zmr 4200 rfl rfl, zmr 4202 rfl rfl, zmr 32 rfl rfl, by decide⟩, fun h => absurd h (by decide), fun h => absurd h (by decide), fun h => absurd h (by decide)⟩
theorem zr_10_89 : zCok 10 (89, 0, 1, zm_M_readInto) := ⟨zo_zm_M_readInto, fun _ => ⟨zmr 4204 rfl rfl, zmr 4206 rfl rfl, zmr 33 rfl rfl, by decide⟩, fun h => absurd h (by decide), fun h => absurd h (by decide), fun h => absurd h (by decide)⟩
theorem zr_10_93 : zCok 10 (93, 0, 1, zm_M_isCopy) := ⟨zo_zm_M_isCopy, fun _ => ⟨zmr 4212 rfl rfl, zmr 4214 rfl rfl, zmr 34 rfl rfl, by decide⟩, fun h => absurd h (by decide), fun h => absurd h (by decide), fun h => absurd h (by decide)⟩
theorem zr_10_97 : zCok 10 (97, 1, 1, zm_M_family) := ⟨zo_zm_M_family, fun h => absurd h (by decide), fun _ => ⟨zmr 5012 rfl rfl, zmr 5013 rfl rfl⟩, fun h => absurd h (by decide), fun h => absurd h (by decide)⟩
theorem zr_10_108 : zCok 10 (108, 0, 2, zm_M_letterAt) := ⟨zo_zm_M_letterAt, fun _ => ⟨zmr 5005 rfl rfl, zmr 5007 rfl rfl, zmr 39 rfl rfl, by decide⟩, fun h => absurd h (by decide), fun h => absurd h (by decide), fun h => absurd h (by decide)⟩
theorem zr_10_112 : zCok 10 (112, 1, 2, zm_M_pairCost) := ⟨zo_zm_M_pairCost, fun h => absurd h (by decide), fun _ => ⟨zmr 5009 rfl rfl, zmr 5010 rfl rfl⟩, fun h => absurd h (by decide), fun h => absurd h (by decide)⟩
theorem zr_10_115 : zCok 10 (115, 0, 3, zm_M_costBy) := ⟨zo_zm_M_costBy, fun _ => ⟨zmr 5001 rfl rfl, zmr 5003 rfl rfl, zmr 38 rfl rfl, by decide⟩, fun h => absurd h (by decide), fun h => absurd h (by decide), fun h => absurd h (by decide)⟩
theorem zr_10_119 : zCok 10 (119, 0, 2, zm_M_leastCost) := ⟨zo_zm_M_leastCost, fun _ => ⟨zmr 4236 rfl rfl, zmr 4238 rfl rfl, zmr 37 rfl rfl, by decide⟩, fun h => absurd h (by decide), fun h => absurd h (by decide), fun h => absurd h (by decide)⟩
theorem zr_10_125 : zCok 10 (125, 0, 0, zm_M_isCollated) := ⟨zo_zm_M_isCollated, fun _ => ⟨zmr 5015 rfl rfl, zmr 5017 rfl rfl, zmr 40 rfl rfl, by decide⟩, fun h => absurd h (by decide), fun h => absurd h (by decide), fun h => absurd h (by decide)⟩
theorem zr_10_128 : zCok 10 (128, 0, 2, zm_M_layCollation) := ⟨zo_zm_M_layCollation, fun _ => ⟨zmr 4232 rfl rfl, zmr 4234 rfl rfl, zmr 36 rfl rfl, by decide⟩, fun h => absurd h (by decide), fun h => absurd h (by decide), fun h => absurd h (by decide)⟩
theorem zr_10_132 : zCok 10 (132, 0, 1, zm_M_stepsOf) := ⟨zo_zm_M_stepsOf, fun _ => ⟨zmr 5019 rfl rfl, zmr 5021 rfl rfl, zmr 41 rfl rfl, by decide⟩, fun h => absurd h (by decide), fun h => absurd h (by decide), fun h => absurd h (by decide)⟩
theorem zr_10_135 : zCok 10 (135, 0, 3, zm_M_collateNow) := ⟨zo_zm_M_collateNow, fun _ => ⟨zmr 4228 rfl rfl, zmr 4230 rfl rfl, zmr 35 rfl rfl, by decide⟩, fun h => absurd h (by decide), fun h => absurd h (by decide), fun h => absurd h (by decide)⟩
theorem zr_10_138 : zCok 10 (138, 0, 3, zm_M_stepNow) := ⟨zo_zm_M_stepNow, fun _ => ⟨zmr 5027 rfl rfl, zmr 5029 rfl rfl, zmr 42 rfl rfl, by decide⟩, fun h => absurd h (by decide), fun h => absurd h (by decide), fun h => absurd h (by decide)⟩
theorem zr_10_141 : zCok 10 (141, 0, 0, zm_M_places) := ⟨zo_zm_M_places, fun _ => ⟨zmr 5051 rfl rfl, zmr 5053 rfl rfl, zmr 47 rfl rfl, by decide⟩, fun h => absurd h (by decide), fun h => absurd h (by decide), fun h => absurd h (by decide)⟩
theorem zr_10_145 : zCok 10 (145, 0, 2, zm_M_unlike) := ⟨zo_zm_M_unlike, fun _ => ⟨zmr 5047 rfl rfl, zmr 5049 rfl rfl, zmr 46 rfl rfl, by decide⟩, fun h => absurd h (by decide), fun h => absurd h (by decide), fun h => absurd h (by decide)⟩
theorem zr_10_151 : zCok 10 (151, 0, 1, zm_M_layReading) := ⟨zo_zm_M_layReading, fun _ => ⟨zmr 5043 rfl rfl, zmr 5045 rfl rfl, zmr 45 rfl rfl, by decide⟩, fun h => absurd h (by decide), fun h => absurd h (by decide), fun h => absurd h (by decide)⟩
theorem zr_10_154 : zCok 10 (154, 0, 0, zm_M_layTree) := ⟨zo_zm_M_layTree, fun _ => ⟨zmr 5055 rfl rfl, zmr 5057 rfl rfl, zmr 48 rfl rfl, by decide⟩, fun h => absurd h (by decide), fun h => absurd h (by decide), fun h => absurd h (by decide)⟩
theorem zr_10_157 : zCok 10 (157, 0, 2, zm_M_farNow) := ⟨zo_zm_M_farNow, fun _ => ⟨zmr 5059 rfl rfl, zmr 5061 rfl rfl, zmr 49 rfl rfl, by decide⟩, fun h => absurd h (by decide), fun h => absurd h (by decide), fun h => absurd h (by decide)⟩
theorem zr_10_160 : zCok 10 (160, 0, 2, zm_M_readingOf) := ⟨zo_zm_M_readingOf, fun _ => ⟨zmr 5103 rfl rfl, zmr 5105 rfl rfl, zmr 57 rfl rfl, by decide⟩, fun h => absurd h (by decide), fun h => absurd h (by decide), fun h => absurd h (by decide)⟩
theorem zr_10_163 : zCok 10 (163, 0, 2, zm_M_isTurned) := ⟨zo_zm_M_isTurned, fun _ => ⟨zmr 5115 rfl rfl, zmr 5117 rfl rfl, zmr 60 rfl rfl, by decide⟩, fun h => absurd h (by decide), fun h => absurd h (by decide), fun h => absurd h (by decide)⟩
theorem zr_10_167 : zCok 10 (167, 0, 0, zm_M_layStates) := ⟨zo_zm_M_layStates, fun _ => ⟨zmr 5039 rfl rfl, zmr 5041 rfl rfl, zmr 44 rfl rfl, by decide⟩, fun h => absurd h (by decide), fun h => absurd h (by decide), fun h => absurd h (by decide)⟩
theorem zr_10_170 : zCok 10 (170, 0, 1, zm_M_costOf) := ⟨zo_zm_M_costOf, fun _ => ⟨zmr 5063 rfl rfl, zmr 5065 rfl rfl, zmr 50 rfl rfl, by decide⟩, fun h => absurd h (by decide), fun h => absurd h (by decide), fun h => absurd h (by decide)⟩
theorem zr_10_173 : zCok 10 (173, 0, 1, zm_M_moreOf) := ⟨zo_zm_M_moreOf, fun _ => ⟨zmr 5067 rfl rfl, zmr 5069 rfl rfl, zmr 51 rfl rfl, by decide⟩, fun h => absurd h (by decide), fun h => absurd h (by decide), fun h => absurd h (by decide)⟩
theorem zr_10_176 : zCok 10 (176, 0, 1, zm_M_otherReadings) := ⟨zo_zm_M_otherReadings, fun _ => ⟨zmr 5071 rfl rfl, zmr 5073 rfl rfl, zmr 52 rfl rfl, by decide⟩, fun h => absurd h (by decide), fun h => absurd h (by decide), fun h => absurd h (by decide)⟩
theorem zr_10_179 : zCok 10 (179, 0, 2, zm_M_copyNow) := ⟨zo_zm_M_copyNow, fun _ => ⟨zmr 5035 rfl rfl, zmr 5037 rfl rfl, zmr 43 rfl rfl, by decide⟩, fun h => absurd h (by decide), fun h => absurd h (by decide), fun h => absurd h (by decide)⟩
theorem zr_10_182 : zCok 10 (182, 0, 1, zm_M_turnedMany) := ⟨zo_zm_M_turnedMany, fun _ => ⟨zmr 5111 rfl rfl, zmr 5113 rfl rfl, zmr 59 rfl rfl, by decide⟩, fun h => absurd h (by decide), fun h => absurd h (by decide), fun h => absurd h (by decide)⟩
theorem zr_10_185 : zCok 10 (185, 0, 0, zm_M_outMany) := ⟨zo_zm_M_outMany, fun _ => ⟨zmr 5091 rfl rfl, zmr 5093 rfl rfl, zmr 54 rfl rfl, by decide⟩, fun h => absurd h (by decide), fun h => absurd h (by decide), fun h => absurd h (by decide)⟩
theorem zr_10_188 : zCok 10 (188, 0, 0, zm_M_changes) := ⟨zo_zm_M_changes, fun _ => ⟨zmr 5095 rfl rfl, zmr 5097 rfl rfl, zmr 55 rfl rfl, by decide⟩, fun h => absurd h (by decide), fun h => absurd h (by decide), fun h => absurd h (by decide)⟩
theorem zr_10_191 : zCok 10 (191, 0, 0, zm_M_unlikePlaces) := ⟨zo_zm_M_unlikePlaces, fun _ => ⟨zmr 5099 rfl rfl, zmr 5101 rfl rfl, zmr 56 rfl rfl, by decide⟩, fun h => absurd h (by decide), fun h => absurd h (by decide), fun h => absurd h (by decide)⟩
theorem zr_10_194 : zCok 10 (194, 0, 0, zm_M_turnedAll) := ⟨zo_zm_M_turnedAll, fun _ => ⟨zmr 5107 rfl rfl, zmr 5109 rfl rfl, zmr 58 rfl rfl, by decide⟩, fun h => absurd h (by decide), fun h => absurd h (by decide), fun h => absurd h (by decide)⟩
theorem zr_10_197 : zCok 10 (197, 0, 0, zm_M_childless) := ⟨zo_zm_M_childless, fun _ => ⟨zmr 5119 rfl rfl, zmr 5121 rfl rfl, zmr 61 rfl rfl, by decide⟩, fun h => absurd h (by decide), fun h => absurd h (by decide), fun h => absurd h (by decide)⟩
theorem zr_10_200 : zCok 10 (200, 0, 1, zm_M_statesNow) := ⟨zo_zm_M_statesNow, fun _ => ⟨zmr 5087 rfl rfl, zmr 5089 rfl rfl, zmr 53 rfl rfl, by decide⟩, fun h => absurd h (by decide), fun h => absurd h (by decide), fun h => absurd h (by decide)⟩
theorem zr_10_203 : zCok 10 (203, 0, 1, zm_M_copiesIn) := ⟨zo_zm_M_copiesIn, fun _ => ⟨zmr 5135 rfl rfl, zmr 5137 rfl rfl, zmr 64 rfl rfl, by decide⟩, fun h => absurd h (by decide), fun h => absurd h (by decide), fun h => absurd h (by decide)⟩
theorem zr_10_206 : zCok 10 (206, 0, 1, zm_M_above) := ⟨zo_zm_M_above, fun _ => ⟨zmr 5139 rfl rfl, zmr 5141 rfl rfl, zmr 65 rfl rfl, by decide⟩, fun h => absurd h (by decide), fun h => absurd h (by decide), fun h => absurd h (by decide)⟩
theorem zr_10_209 : zCok 10 (209, 0, 2, zm_M_tellState) := ⟨zo_zm_M_tellState, fun _ => ⟨zmr 5131 rfl rfl, zmr 5133 rfl rfl, zmr 63 rfl rfl, by decide⟩, fun h => absurd h (by decide), fun h => absurd h (by decide), fun h => absurd h (by decide)⟩
theorem zr_10_212 : zCok 10 (212, 0, 2, zm_M_stateNow) := ⟨zo_zm_M_stateNow, fun _ => ⟨zmr 5127 rfl rfl, zmr 5129 rfl rfl, zmr 62 rfl rfl, by decide⟩, fun h => absurd h (by decide), fun h => absurd h (by decide), fun h => absurd h (by decide)⟩
theorem zr_10_218 : zCok 10 (218, 0, 3, zm_M_isTaken) := ⟨zo_zm_M_isTaken, fun _ => ⟨zmr 5155 rfl rfl, zmr 5157 rfl rfl, zmr 66 rfl rfl, by decide⟩, fun h => absurd h (by decide), fun h => absurd h (by decide), fun h => absurd h (by decide)⟩
theorem zr_10_221 : zCok 10 (221, 0, 1, zm_M_isSighting) := ⟨zo_zm_M_isSighting, fun _ => ⟨zmr 5163 rfl rfl, zmr 5165 rfl rfl, zmr 67 rfl rfl, by decide⟩, fun h => absurd h (by decide), fun h => absurd h (by decide), fun h => absurd h (by decide)⟩
theorem zr_10_227 : zCok 10 (227, 0, 2, zm_M_sightingNow) := ⟨zo_zm_M_sightingNow, fun _ => ⟨zmr 5171 rfl rfl, zmr 5173 rfl rfl, zmr 68 rfl rfl, by decide⟩, fun h => absurd h (by decide), fun h => absurd h (by decide), fun h => absurd h (by decide)⟩
theorem zr_10_233 : zCok 10 (233, 1, 2, zm_M_has) := ⟨zo_zm_M_has, fun h => absurd h (by decide), fun _ => ⟨zmr 5195 rfl rfl, zmr 5196 rfl rfl⟩, fun h => absurd h (by decide), fun h => absurd h (by decide)⟩
theorem zr_10_236 : zCok 10 (236, 0, 2, zm_M_canBeFirst) := ⟨zo_zm_M_canBeFirst, fun _ => ⟨zmr 5202 rfl rfl, zmr 5204 rfl rfl, zmr 74 rfl rfl, by decide⟩, fun h => absurd h (by decide), fun h => absurd h (by decide), fun h => absurd h (by decide)⟩
theorem zr_10_239 : zCok 10 (239, 0, 1, zm_M_layAhead) := ⟨zo_zm_M_layAhead, fun _ => ⟨zmr 5191 rfl rfl, zmr 5193 rfl rfl, zmr 72 rfl rfl, by decide⟩, fun h => absurd h (by decide), fun h => absurd h (by decide), fun h => absurd h (by decide)⟩
theorem zr_10_242 : zCok 10 (242, 0, 0, zm_M_layWays) := ⟨zo_zm_M_layWays, fun _ => ⟨zmr 5198 rfl rfl, zmr 5200 rfl rfl, zmr 73 rfl rfl, by decide⟩, fun h => absurd h (by decide), fun h => absurd h (by decide), fun h => absurd h (by decide)⟩
theorem zr_10_245 : zCok 10 (245, 0, 0, zm_M_allSightings) := ⟨zo_zm_M_allSightings, fun _ => ⟨zmr 5183 rfl rfl, zmr 5185 rfl rfl, zmr 70 rfl rfl, by decide⟩, fun h => absurd h (by decide), fun h => absurd h (by decide), fun h => absurd h (by decide)⟩
theorem zr_10_248 : zCok 10 (248, 1, 1, zm_M_many) := ⟨zo_zm_M_many, fun h => absurd h (by decide), fun _ => ⟨zmr 5206 rfl rfl, zmr 5207 rfl rfl⟩, fun h => absurd h (by decide), fun h => absurd h (by decide)⟩
theorem zr_10_251 : zCok 10 (251, 0, 1, zm_M_orders) := ⟨zo_zm_M_orders, fun _ => ⟨zmr 5187 rfl rfl, zmr 5189 rfl rfl, zmr 71 rfl rfl, by decide⟩, fun h => absurd h (by decide), fun h => absurd h (by decide), fun h => absurd h (by decide)⟩
theorem zr_10_254 : zCok 10 (254, 0, 1, zm_M_orderAt) := ⟨zo_zm_M_orderAt, fun _ => ⟨zmr 5179 rfl rfl, zmr 5181 rfl rfl, zmr 69 rfl rfl, by decide⟩, fun h => absurd h (by decide), fun h => absurd h (by decide), fun h => absurd h (by decide)⟩
theorem zr_10_257 : zCok 10 (257, 0, 1, zm_M_typesOn) := ⟨zo_zm_M_typesOn, fun _ => ⟨zmr 5225 rfl rfl, zmr 5227 rfl rfl, zmr 78 rfl rfl, by decide⟩, fun h => absurd h (by decide), fun h => absurd h (by decide), fun h => absurd h (by decide)⟩
theorem zr_10_260 : zCok 10 (260, 0, 1, zm_M_goesOn) := ⟨zo_zm_M_goesOn, fun _ => ⟨zmr 6005 rfl rfl, zmr 6007 rfl rfl, zmr 83 rfl rfl, by decide⟩, fun h => absurd h (by decide), fun h => absurd h (by decide), fun h => absurd h (by decide)⟩
theorem zr_10_263 : zCok 10 (263, 0, 1, zm_M_goesBack) := ⟨zo_zm_M_goesBack, fun _ => ⟨zmr 6009 rfl rfl, zmr 6011 rfl rfl, zmr 84 rfl rfl, by decide⟩, fun h => absurd h (by decide), fun h => absurd h (by decide), fun h => absurd h (by decide)⟩
theorem zr_10_266 : zCok 10 (266, 0, 2, zm_M_mayBeOn) := ⟨zo_zm_M_mayBeOn, fun _ => ⟨zmr 6013 rfl rfl, zmr 6015 rfl rfl, zmr 85 rfl rfl, by decide⟩, fun h => absurd h (by decide), fun h => absurd h (by decide), fun h => absurd h (by decide)⟩
theorem zr_10_269 : zCok 10 (269, 0, 1, zm_M_togetherWith) := ⟨zo_zm_M_togetherWith, fun _ => ⟨zmr 5221 rfl rfl, zmr 5223 rfl rfl, zmr 77 rfl rfl, by decide⟩, fun h => absurd h (by decide), fun h => absurd h (by decide), fun h => absurd h (by decide)⟩
theorem zr_10_275 : zCok 10 (275, 0, 1, zm_M_findsRoom) := ⟨zo_zm_M_findsRoom, fun _ => ⟨zmr 6001 rfl rfl, zmr 6003 rfl rfl, zmr 82 rfl rfl, by decide⟩, fun h => absurd h (by decide), fun h => absurd h (by decide), fun h => absurd h (by decide)⟩
theorem zr_10_278 : zCok 10 (278, 0, 0, zm_M_layPresses) := ⟨zo_zm_M_layPresses, fun _ => ⟨zmr 5237 rfl rfl, zmr 5239 rfl rfl, zmr 81 rfl rfl, by decide⟩, fun h => absurd h (by decide), fun h => absurd h (by decide), fun h => absurd h (by decide)⟩
theorem zr_10_281 : zCok 10 (281, 0, 1, zm_M_onForme) := ⟨zo_zm_M_onForme, fun _ => ⟨zmr 5217 rfl rfl, zmr 5219 rfl rfl, zmr 76 rfl rfl, by decide⟩, fun h => absurd h (by decide), fun h => absurd h (by decide), fun h => absurd h (by decide)⟩
theorem zr_10_284 : zCok 10 (284, 0, 1, zm_M_placeOf) := ⟨zo_zm_M_placeOf, fun _ => ⟨zmr 5229 rfl rfl, zmr 5231 rfl rfl, zmr 79 rfl rfl, by decide⟩, fun h => absurd h (by decide), fun h => absurd h (by decide), fun h => absurd h (by decide)⟩
theorem zr_10_287 : zCok 10 (287, 0, 1, zm_M_pressNow) := ⟨zo_zm_M_pressNow, fun _ => ⟨zmr 5233 rfl rfl, zmr 5235 rfl rfl, zmr 80 rfl rfl, by decide⟩, fun h => absurd h (by decide), fun h => absurd h (by decide), fun h => absurd h (by decide)⟩
theorem zr_10_290 : zCok 10 (290, 0, 2, zm_M_formeNow) := ⟨zo_zm_M_formeNow, fun _ => ⟨zmr 5213 rfl rfl, zmr 5215 rfl rfl, zmr 75 rfl rfl, by decide⟩, fun h => absurd h (by decide), fun h => absurd h (by decide), fun h => absurd h (by decide)⟩
theorem zr_10_293 : zCok 10 (293, 0, 0, zm_M_faultNow) := ⟨zo_zm_M_faultNow, fun _ => ⟨zmr 6025 rfl rfl, zmr 6027 rfl rfl, zmr 87 rfl rfl, by decide⟩, fun h => absurd h (by decide), fun h => absurd h (by decide), fun h => absurd h (by decide)⟩
theorem zr_10_296 : zCok 10 (296, 0, 0, zm_M_pressesNow) := ⟨zo_zm_M_pressesNow, fun _ => ⟨zmr 6029 rfl rfl, zmr 6031 rfl rfl, zmr 88 rfl rfl, by decide⟩, fun h => absurd h (by decide), fun h => absurd h (by decide), fun h => absurd h (by decide)⟩
theorem zr_10_299 : zCok 10 (299, 0, 0, zm_M_typesSeen) := ⟨zo_zm_M_typesSeen, fun _ => ⟨zmr 6033 rfl rfl, zmr 6035 rfl rfl, zmr 89 rfl rfl, by decide⟩, fun h => absurd h (by decide), fun h => absurd h (by decide), fun h => absurd h (by decide)⟩
theorem zr_10_302 : zCok 10 (302, 0, 1, zm_M_formesNow) := ⟨zo_zm_M_formesNow, fun _ => ⟨zmr 6021 rfl rfl, zmr 6023 rfl rfl, zmr 86 rfl rfl, by decide⟩, fun h => absurd h (by decide), fun h => absurd h (by decide), fun h => absurd h (by decide)⟩
theorem zr_10_305 : zCok 10 (305, 0, 1, zm_M_howMany) := ⟨zo_zm_M_howMany, fun _ => ⟨zmr 6041 rfl rfl, zmr 6043 rfl rfl, zmr 90 rfl rfl, by decide⟩, fun h => absurd h (by decide), fun h => absurd h (by decide), fun h => absurd h (by decide)⟩
theorem zr_10_314 : zCok 10 (314, 0, 1, zm_M_mix) := ⟨zo_zm_M_mix, fun _ => ⟨zmr 6054 rfl rfl, zmr 6056 rfl rfl, zmr 92 rfl rfl, by decide⟩, fun h => absurd h (by decide), fun h => absurd h (by decide), fun h => absurd h (by decide)⟩
theorem zr_10_320 : zCok 10 (320, 0, 0, zm_M_mixCopies) := ⟨zo_zm_M_mixCopies, fun _ => ⟨zmr 6050 rfl rfl, zmr 6052 rfl rfl, zmr 91 rfl rfl, by decide⟩, fun h => absurd h (by decide), fun h => absurd h (by decide), fun h => absurd h (by decide)⟩
theorem zr_10_323 : zCok 10 (323, 0, 0, zm_M_mixStates) := ⟨zo_zm_M_mixStates, fun _ => ⟨zmr 6059 rfl rfl, zmr 6061 rfl rfl, zmr 93 rfl rfl, by decide⟩, fun h => absurd h (by decide), fun h => absurd h (by decide), fun h => absurd h (by decide)⟩
theorem zr_10_326 : zCok 10 (326, 0, 0, zm_M_mixFormes) := ⟨zo_zm_M_mixFormes, fun _ => ⟨zmr 6063 rfl rfl, zmr 6065 rfl rfl, zmr 94 rfl rfl, by decide⟩, fun h => absurd h (by decide), fun h => absurd h (by decide), fun h => absurd h (by decide)⟩
theorem zCo10 : ∀ e ∈ zCT10, zCok 10 e := List.forall_mem_cons.mpr ⟨zr_10_72, List.forall_mem_cons.mpr ⟨zr_10_82, List.forall_mem_cons.mpr ⟨zr_10_89, List.forall_mem_cons.mpr ⟨zr_10_93, List.forall_mem_cons.mpr ⟨zr_10_97, List.forall_mem_cons.mpr ⟨zr_10_108, List.forall_mem_cons.mpr ⟨zr_10_112, List.forall_mem_cons.mpr ⟨zr_10_115, List.forall_mem_cons.mpr ⟨zr_10_119, List.forall_mem_cons.mpr ⟨zr_10_125, List.forall_mem_cons.mpr ⟨zr_10_128, List.forall_mem_cons.mpr ⟨zr_10_132, List.forall_mem_cons.mpr ⟨zr_10_135, List.forall_mem_cons.mpr ⟨zr_10_138, List.forall_mem_cons.mpr ⟨zr_10_141, List.forall_mem_cons.mpr ⟨zr_10_145, List.forall_mem_cons.mpr ⟨zr_10_151, List.forall_mem_cons.mpr ⟨zr_10_154, List.forall_mem_cons.mpr ⟨zr_10_157, List.forall_mem_cons.mpr ⟨zr_10_160, List.forall_mem_cons.mpr ⟨zr_10_163, List.forall_mem_cons.mpr ⟨zr_10_167, List.forall_mem_cons.mpr ⟨zr_10_170, List.forall_mem_cons.mpr ⟨zr_10_173, List.forall_mem_cons.mpr ⟨zr_10_176, List.forall_mem_cons.mpr ⟨zr_10_179, List.forall_mem_cons.mpr ⟨zr_10_182, List.forall_mem_cons.mpr ⟨zr_10_185, List.forall_mem_cons.mpr ⟨zr_10_188, List.forall_mem_cons.mpr ⟨zr_10_191, List.forall_mem_cons.mpr ⟨zr_10_194, List.forall_mem_cons.mpr ⟨zr_10_197, List.forall_mem_cons.mpr ⟨zr_10_200, List.forall_mem_cons.mpr ⟨zr_10_203, List.forall_mem_cons.mpr ⟨zr_10_206, List.forall_mem_cons.mpr ⟨zr_10_209, List.forall_mem_cons.mpr ⟨zr_10_212, List.forall_mem_cons.mpr ⟨zr_10_218, List.forall_mem_cons.mpr ⟨zr_10_221, List.forall_mem_cons.mpr ⟨zr_10_227, List.forall_mem_cons.mpr ⟨zr_10_233, List.forall_mem_cons.mpr ⟨zr_10_236, List.forall_mem_cons.mpr ⟨zr_10_239, List.forall_mem_cons.mpr ⟨zr_10_242, List.forall_mem_cons.mpr ⟨zr_10_245, List.forall_mem_cons.mpr ⟨zr_10_248, List.forall_mem_cons.mpr ⟨zr_10_251, List.forall_mem_cons.mpr ⟨zr_10_254, List.forall_mem_cons.mpr ⟨zr_10_257, List.forall_mem_cons.mpr ⟨zr_10_260, List.forall_mem_cons.mpr ⟨zr_10_263, List.forall_mem_cons.mpr ⟨zr_10_266, List.forall_mem_cons.mpr ⟨zr_10_269, List.forall_mem_cons.mpr ⟨zr_10_275, List.forall_mem_cons.mpr ⟨zr_10_278, List.forall_mem_cons.mpr ⟨zr_10_281, List.forall_mem_cons.mpr ⟨zr_10_284, List.forall_mem_cons.mpr ⟨zr_10_287, List.forall_mem_cons.mpr ⟨zr_10_290, List.forall_mem_cons.mpr ⟨zr_10_293, List.forall_mem_cons.mpr ⟨zr_10_296, List.forall_mem_cons.mpr ⟨zr_10_299, List.forall_mem_cons.mpr ⟨zr_10_302, List.forall_mem_cons.mpr ⟨zr_10_305, List.forall_mem_cons.mpr ⟨zr_10_314, List.forall_mem_cons.mpr ⟨zr_10_320, List.forall_mem_cons.mpr ⟨zr_10_323, List.forall_mem_cons.mpr ⟨zr_10_326, fun _ h => absurd h List.not_mem_nil⟩⟩⟩⟩⟩⟩⟩⟩⟩⟩⟩⟩⟩⟩⟩⟩⟩⟩⟩⟩⟩⟩⟩⟩⟩⟩⟩⟩⟩⟩⟩⟩⟩⟩⟩⟩⟩⟩⟩⟩⟩⟩⟩⟩⟩⟩⟩⟩⟩⟩⟩⟩⟩⟩⟩⟩⟩⟩⟩⟩⟩⟩⟩⟩⟩⟩⟩⟩
theorem zr_11_9 : zCok 11 (9, 2, 0, zm_P_init) := ⟨zo_zm_P_init, fun h => absurd h (by decide), fun h => absurd h (by decide), fun _ => ⟨zmr 1016 rfl rfl, zmr 1017 rfl rfl, rfl, rfl⟩, fun h => absurd h (by decide)⟩
theorem zr_11_12 : zCok 11 (12, 2, 0, zm_M_init) := ⟨zo_zm_M_init, fun h => absurd h (by decide), fun h => absurd h (by decide), fun _ => ⟨zmr 4083 rfl rfl, zmr 4084 rfl rfl, rfl, rfl⟩, fun h => absurd h (by decide)⟩
theorem zr_11_13 : zCok 11 (13, 0, 1, zm_P_letter) := ⟨zo_zm_P_letter, fun _ => ⟨zmr 2019 rfl rfl, zmr 2020 rfl rfl, zmr 2021 rfl rfl, by decide⟩, fun h => absurd h (by decide), fun h => absurd h (by decide), fun h => absurd h (by decide)⟩
theorem zr_11_17 : zCok 11 (17, 0, 1, zm_M_letter) := ⟨zo_zm_M_letter, fun _ => ⟨zmr 4185 rfl rfl, zmr 4186 rfl rfl, zmr 4187 rfl rfl, by decide⟩, fun h => absurd h (by decide), fun h => absurd h (by decide), fun h => absurd h (by decide)⟩
theorem zr_11_18 : zCok 11 (18, 0, 0, zm_P_blank) := ⟨zo_zm_P_blank, fun _ => ⟨zmr 2031 rfl rfl, zmr 2032 rfl rfl, zmr 2033 rfl rfl, by decide⟩, fun h => absurd h (by decide), fun h => absurd h (by decide), fun h => absurd h (by decide)⟩
theorem zr_11_22 : zCok 11 (22, 0, 0, zm_M_blank) := ⟨zo_zm_M_blank, fun _ => ⟨zmr 4192 rfl rfl, zmr 4193 rfl rfl, zmr 4194 rfl rfl, by decide⟩, fun h => absurd h (by decide), fun h => absurd h (by decide), fun h => absurd h (by decide)⟩
theorem zr_11_23 : zCok 11 (23, 0, 0, zm_P_copy) := ⟨zo_zm_P_copy, fun _ => ⟨zmr 2039 rfl rfl, zmr 2040 rfl rfl, zmr 2041 rfl rfl, by decide⟩, fun h => absurd h (by decide), fun h => absurd h (by decide), fun h => absurd h (by decide)⟩
theorem zr_11_26 : zCok 11 (26, 0, 0, zm_M_copy) := ⟨zo_zm_M_copy, fun _ => ⟨zmr 4196 rfl rfl, zmr 4197 rfl rfl, zmr 4198 rfl rfl, by decide⟩, fun h => absurd h (by decide), fun h => absurd h (by decide), fun h => absurd h (by decide)⟩
theorem zr_11_27 : zCok 11 (27, 0, 1, zm_P_correct) := ⟨zo_zm_P_correct, fun _ => ⟨zmr 2072 rfl rfl, zmr 2073 rfl rfl, zmr 2074 rfl rfl, by decide⟩, fun h => absurd h (by decide), fun h => absurd h (by decide), fun h => absurd h (by decide)⟩
theorem zr_11_30 : zCok 11 (30, 0, 1, zm_M_correct) := ⟨zo_zm_M_correct, fun _ => ⟨zmr 4208 rfl rfl, zmr 4209 rfl rfl, zmr 4210 rfl rfl, by decide⟩, fun h => absurd h (by decide), fun h => absurd h (by decide), fun h => absurd h (by decide)⟩
theorem zr_11_31 : zCok 11 (31, 0, 0, zm_P_drop) := ⟨zo_zm_P_drop, fun _ => ⟨zmr 2085 rfl rfl, zmr 2086 rfl rfl, zmr 2087 rfl rfl, by decide⟩, fun h => absurd h (by decide), fun h => absurd h (by decide), fun h => absurd h (by decide)⟩
theorem zr_11_34 : zCok 11 (34, 0, 0, zm_M_drop) := ⟨zo_zm_M_drop, fun _ => ⟨zmr 4216 rfl rfl, zmr 4217 rfl rfl, zmr 4218 rfl rfl, by decide⟩, fun h => absurd h (by decide), fun h => absurd h (by decide), fun h => absurd h (by decide)⟩
theorem zr_11_35 : zCok 11 (35, 0, 1, zm_P_band) := ⟨zo_zm_P_band, fun _ => ⟨zmr 2094 rfl rfl, zmr 2095 rfl rfl, zmr 2096 rfl rfl, by decide⟩, fun h => absurd h (by decide), fun h => absurd h (by decide), fun h => absurd h (by decide)⟩
theorem zr_11_38 : zCok 11 (38, 0, 1, zm_M_band) := ⟨zo_zm_M_band, fun _ => ⟨zmr 4220 rfl rfl, zmr 4221 rfl rfl, zmr 4222 rfl rfl, by decide⟩, fun h => absurd h (by decide), fun h => absurd h (by decide), fun h => absurd h (by decide)⟩
theorem zr_11_39 : zCok 11 (39, 0, 2, zm_P_of) := ⟨zo_zm_P_of, fun _ => ⟨zmr 2106 rfl rfl, zmr 2107 rfl rfl, zmr 2108 rfl rfl, by decide⟩, fun h => absurd h (by decide), fun h => absurd h (by decide), fun h => absurd h (by decide)⟩
theorem zr_11_43 : zCok 11 (43, 0, 2, zm_M_of) := ⟨zo_zm_M_of, fun _ => ⟨zmr 5031 rfl rfl, zmr 5032 rfl rfl, zmr 5033 rfl rfl, by decide⟩, fun h => absurd h (by decide), fun h => absurd h (by decide), fun h => absurd h (by decide)⟩
theorem zr_11_44 : zCok 11 (44, 0, 2, zm_P_sign) := ⟨zo_zm_P_sign, fun _ => ⟨zmr 3014 rfl rfl, zmr 3015 rfl rfl, zmr 3016 rfl rfl, by decide⟩, fun h => absurd h (by decide), fun h => absurd h (by decide), fun h => absurd h (by decide)⟩
theorem zr_11_47 : zCok 11 (47, 0, 2, zm_M_sign) := ⟨zo_zm_M_sign, fun _ => ⟨zmr 5075 rfl rfl, zmr 5076 rfl rfl, zmr 5077 rfl rfl, by decide⟩, fun h => absurd h (by decide), fun h => absurd h (by decide), fun h => absurd h (by decide)⟩
theorem zr_11_48 : zCok 11 (48, 0, 3, zm_P_collate) := ⟨zo_zm_P_collate, fun _ => ⟨zmr 3023 rfl rfl, zmr 3024 rfl rfl, zmr 3025 rfl rfl, by decide⟩, fun h => absurd h (by decide), fun h => absurd h (by decide), fun h => absurd h (by decide)⟩
theorem zr_11_52 : zCok 11 (52, 0, 3, zm_M_collate) := ⟨zo_zm_M_collate, fun _ => ⟨zmr 4224 rfl rfl, zmr 4225 rfl rfl, zmr 4226 rfl rfl, by decide⟩, fun h => absurd h (by decide), fun h => absurd h (by decide), fun h => absurd h (by decide)⟩
theorem zr_11_53 : zCok 11 (53, 0, 3, zm_P_step) := ⟨zo_zm_P_step, fun _ => ⟨zmr 3027 rfl rfl, zmr 3028 rfl rfl, zmr 3029 rfl rfl, by decide⟩, fun h => absurd h (by decide), fun h => absurd h (by decide), fun h => absurd h (by decide)⟩
theorem zr_11_56 : zCok 11 (56, 0, 3, zm_M_step) := ⟨zo_zm_M_step, fun _ => ⟨zmr 5023 rfl rfl, zmr 5024 rfl rfl, zmr 5025 rfl rfl, by decide⟩, fun h => absurd h (by decide), fun h => absurd h (by decide), fun h => absurd h (by decide)⟩
theorem zr_11_57 : zCok 11 (57, 0, 2, zm_P_reading) := ⟨zo_zm_P_reading, fun _ => ⟨zmr 3033 rfl rfl, zmr 3034 rfl rfl, zmr 3035 rfl rfl, by decide⟩, fun h => absurd h (by decide), fun h => absurd h (by decide), fun h => absurd h (by decide)⟩
theorem zr_11_60 : zCok 11 (60, 0, 2, zm_M_reading) := ⟨zo_zm_M_reading, fun _ => ⟨zmr 5079 rfl rfl, zmr 5080 rfl rfl, zmr 5081 rfl rfl, by decide⟩, fun h => absurd h (by decide), fun h => absurd h (by decide), fun h => absurd h (by decide)⟩
theorem zr_11_61 : zCok 11 (61, 0, 1, zm_P_states) := ⟨zo_zm_P_states, fun _ => ⟨zmr 3038 rfl rfl, zmr 3039 rfl rfl, zmr 3040 rfl rfl, by decide⟩, fun h => absurd h (by decide), fun h => absurd h (by decide), fun h => absurd h (by decide)⟩
theorem zr_11_64 : zCok 11 (64, 0, 1, zm_M_states) := ⟨zo_zm_M_states, fun _ => ⟨zmr 5083 rfl rfl, zmr 5084 rfl rfl, zmr 5085 rfl rfl, by decide⟩, fun h => absurd h (by decide), fun h => absurd h (by decide), fun h => absurd h (by decide)⟩
theorem zr_11_65 : zCok 11 (65, 0, 2, zm_P_state) := ⟨zo_zm_P_state, fun _ => ⟨zmr 3068 rfl rfl, zmr 3069 rfl rfl, zmr 3070 rfl rfl, by decide⟩, fun h => absurd h (by decide), fun h => absurd h (by decide), fun h => absurd h (by decide)⟩
theorem zr_11_68 : zCok 11 (68, 0, 2, zm_M_state) := ⟨zo_zm_M_state, fun _ => ⟨zmr 5123 rfl rfl, zmr 5124 rfl rfl, zmr 5125 rfl rfl, by decide⟩, fun h => absurd h (by decide), fun h => absurd h (by decide), fun h => absurd h (by decide)⟩
theorem zr_11_69 : zCok 11 (69, 0, 2, zm_P_far) := ⟨zo_zm_P_far, fun _ => ⟨zmr 3081 rfl rfl, zmr 3082 rfl rfl, zmr 3083 rfl rfl, by decide⟩, fun h => absurd h (by decide), fun h => absurd h (by decide), fun h => absurd h (by decide)⟩
theorem zr_11_72 : zCok 11 (72, 0, 2, zm_M_far) := ⟨zo_zm_M_far, fun _ => ⟨zmr 5143 rfl rfl, zmr 5144 rfl rfl, zmr 5145 rfl rfl, by decide⟩, fun h => absurd h (by decide), fun h => absurd h (by decide), fun h => absurd h (by decide)⟩
theorem zr_11_73 : zCok 11 (73, 0, 2, zm_P_turned) := ⟨zo_zm_P_turned, fun _ => ⟨zmr 3086 rfl rfl, zmr 3087 rfl rfl, zmr 3088 rfl rfl, by decide⟩, fun h => absurd h (by decide), fun h => absurd h (by decide), fun h => absurd h (by decide)⟩
theorem zr_11_76 : zCok 11 (76, 0, 2, zm_M_turned) := ⟨zo_zm_M_turned, fun _ => ⟨zmr 5147 rfl rfl, zmr 5148 rfl rfl, zmr 5149 rfl rfl, by decide⟩, fun h => absurd h (by decide), fun h => absurd h (by decide), fun h => absurd h (by decide)⟩
theorem zr_11_77 : zCok 11 (77, 0, 4, zm_P_see) := ⟨zo_zm_P_see, fun _ => ⟨zmr 3094 rfl rfl, zmr 3095 rfl rfl, zmr 3096 rfl rfl, by decide⟩, fun h => absurd h (by decide), fun h => absurd h (by decide), fun h => absurd h (by decide)⟩
theorem zr_11_81 : zCok 11 (81, 0, 4, zm_M_see) := ⟨zo_zm_M_see, fun _ => ⟨zmr 5151 rfl rfl, zmr 5152 rfl rfl, zmr 5153 rfl rfl, by decide⟩, fun h => absurd h (by decide), fun h => absurd h (by decide), fun h => absurd h (by decide)⟩
theorem zr_11_82 : zCok 11 (82, 0, 1, zm_P_unsee) := ⟨zo_zm_P_unsee, fun _ => ⟨zmr 3110 rfl rfl, zmr 3111 rfl rfl, zmr 3112 rfl rfl, by decide⟩, fun h => absurd h (by decide), fun h => absurd h (by decide), fun h => absurd h (by decide)⟩
theorem zr_11_85 : zCok 11 (85, 0, 1, zm_M_unsee) := ⟨zo_zm_M_unsee, fun _ => ⟨zmr 5159 rfl rfl, zmr 5160 rfl rfl, zmr 5161 rfl rfl, by decide⟩, fun h => absurd h (by decide), fun h => absurd h (by decide), fun h => absurd h (by decide)⟩
theorem zr_11_86 : zCok 11 (86, 0, 2, zm_P_seen) := ⟨zo_zm_P_seen, fun _ => ⟨zmr 3123 rfl rfl, zmr 3124 rfl rfl, zmr 3125 rfl rfl, by decide⟩, fun h => absurd h (by decide), fun h => absurd h (by decide), fun h => absurd h (by decide)⟩
theorem zr_11_89 : zCok 11 (89, 0, 2, zm_M_seen) := ⟨zo_zm_M_seen, fun _ => ⟨zmr 5167 rfl rfl, zmr 5168 rfl rfl, zmr 5169 rfl rfl, by decide⟩, fun h => absurd h (by decide), fun h => absurd h (by decide), fun h => absurd h (by decide)⟩
theorem zr_11_90 : zCok 11 (90, 0, 2, zm_P_forme) := ⟨zo_zm_P_forme, fun _ => ⟨zmr 3131 rfl rfl, zmr 3132 rfl rfl, zmr 3133 rfl rfl, by decide⟩, fun h => absurd h (by decide), fun h => absurd h (by decide), fun h => absurd h (by decide)⟩
theorem zr_11_93 : zCok 11 (93, 0, 2, zm_M_forme) := ⟨zo_zm_M_forme, fun _ => ⟨zmr 5209 rfl rfl, zmr 5210 rfl rfl, zmr 5211 rfl rfl, by decide⟩, fun h => absurd h (by decide), fun h => absurd h (by decide), fun h => absurd h (by decide)⟩
theorem zr_11_94 : zCok 11 (94, 0, 1, zm_P_formes) := ⟨zo_zm_P_formes, fun _ => ⟨zmr 3219 rfl rfl, zmr 3220 rfl rfl, zmr 3221 rfl rfl, by decide⟩, fun h => absurd h (by decide), fun h => absurd h (by decide), fun h => absurd h (by decide)⟩
theorem zr_11_97 : zCok 11 (97, 0, 1, zm_M_formes) := ⟨zo_zm_M_formes, fun _ => ⟨zmr 6017 rfl rfl, zmr 6018 rfl rfl, zmr 6019 rfl rfl, by decide⟩, fun h => absurd h (by decide), fun h => absurd h (by decide), fun h => absurd h (by decide)⟩
theorem zr_11_98 : zCok 11 (98, 0, 1, zm_P_order) := ⟨zo_zm_P_order, fun _ => ⟨zmr 4032 rfl rfl, zmr 4033 rfl rfl, zmr 4034 rfl rfl, by decide⟩, fun h => absurd h (by decide), fun h => absurd h (by decide), fun h => absurd h (by decide)⟩
theorem zr_11_101 : zCok 11 (101, 0, 1, zm_M_order) := ⟨zo_zm_M_order, fun _ => ⟨zmr 5175 rfl rfl, zmr 5176 rfl rfl, zmr 5177 rfl rfl, by decide⟩, fun h => absurd h (by decide), fun h => absurd h (by decide), fun h => absurd h (by decide)⟩
theorem zr_11_102 : zCok 11 (102, 0, 1, zm_P_count) := ⟨zo_zm_P_count, fun _ => ⟨zmr 4045 rfl rfl, zmr 4046 rfl rfl, zmr 4047 rfl rfl, by decide⟩, fun h => absurd h (by decide), fun h => absurd h (by decide), fun h => absurd h (by decide)⟩
theorem zr_11_105 : zCok 11 (105, 0, 1, zm_M_count) := ⟨zo_zm_M_count, fun _ => ⟨zmr 6037 rfl rfl, zmr 6038 rfl rfl, zmr 6039 rfl rfl, by decide⟩, fun h => absurd h (by decide), fun h => absurd h (by decide), fun h => absurd h (by decide)⟩
theorem zr_11_106 : zCok 11 (106, 0, 0, zm_P_digest) := ⟨zo_zm_P_digest, fun _ => ⟨zmr 4049 rfl rfl, zmr 4050 rfl rfl, zmr 4051 rfl rfl, by decide⟩, fun h => absurd h (by decide), fun h => absurd h (by decide), fun h => absurd h (by decide)⟩
theorem zr_11_110 : zCok 11 (110, 0, 0, zm_M_digest) := ⟨zo_zm_M_digest, fun _ => ⟨zmr 6045 rfl rfl, zmr 6046 rfl rfl, zmr 6047 rfl rfl, by decide⟩, fun h => absurd h (by decide), fun h => absurd h (by decide), fun h => absurd h (by decide)⟩
theorem zCo11 : ∀ e ∈ zCT11, zCok 11 e := List.forall_mem_cons.mpr ⟨zr_11_9, List.forall_mem_cons.mpr ⟨zr_11_12, List.forall_mem_cons.mpr ⟨zr_11_13, List.forall_mem_cons.mpr ⟨zr_11_17, List.forall_mem_cons.mpr ⟨zr_11_18, List.forall_mem_cons.mpr ⟨zr_11_22, List.forall_mem_cons.mpr ⟨zr_11_23, List.forall_mem_cons.mpr ⟨zr_11_26, List.forall_mem_cons.mpr ⟨zr_11_27, List.forall_mem_cons.mpr ⟨zr_11_30, List.forall_mem_cons.mpr ⟨zr_11_31, List.forall_mem_cons.mpr ⟨zr_11_34, List.forall_mem_cons.mpr ⟨zr_11_35, List.forall_mem_cons.mpr ⟨zr_11_38, List.forall_mem_cons.mpr ⟨zr_11_39, List.forall_mem_cons.mpr ⟨zr_11_43, List.forall_mem_cons.mpr ⟨zr_11_44, List.forall_mem_cons.mpr ⟨zr_11_47, List.forall_mem_cons.mpr ⟨zr_11_48, List.forall_mem_cons.mpr ⟨zr_11_52, List.forall_mem_cons.mpr ⟨zr_11_53, List.forall_mem_cons.mpr ⟨zr_11_56, List.forall_mem_cons.mpr ⟨zr_11_57, List.forall_mem_cons.mpr ⟨zr_11_60, List.forall_mem_cons.mpr ⟨zr_11_61, List.forall_mem_cons.mpr ⟨zr_11_64, List.forall_mem_cons.mpr ⟨zr_11_65, List.forall_mem_cons.mpr ⟨zr_11_68, List.forall_mem_cons.mpr ⟨zr_11_69, List.forall_mem_cons.mpr ⟨zr_11_72, List.forall_mem_cons.mpr ⟨zr_11_73, List.forall_mem_cons.mpr ⟨zr_11_76, List.forall_mem_cons.mpr ⟨zr_11_77, List.forall_mem_cons.mpr ⟨zr_11_81, List.forall_mem_cons.mpr ⟨zr_11_82, List.forall_mem_cons.mpr ⟨zr_11_85, List.forall_mem_cons.mpr ⟨zr_11_86, List.forall_mem_cons.mpr ⟨zr_11_89, List.forall_mem_cons.mpr ⟨zr_11_90, List.forall_mem_cons.mpr ⟨zr_11_93, List.forall_mem_cons.mpr ⟨zr_11_94, List.forall_mem_cons.mpr ⟨zr_11_97, List.forall_mem_cons.mpr ⟨zr_11_98, List.forall_mem_cons.mpr ⟨zr_11_101, List.forall_mem_cons.mpr ⟨zr_11_102, List.forall_mem_cons.mpr ⟨zr_11_105, List.forall_mem_cons.mpr ⟨zr_11_106, List.forall_mem_cons.mpr ⟨zr_11_110, fun _ h => absurd h List.not_mem_nil⟩⟩⟩⟩⟩⟩⟩⟩⟩⟩⟩⟩⟩⟩⟩⟩⟩⟩⟩⟩⟩⟩⟩⟩⟩⟩⟩⟩⟩⟩⟩⟩⟩⟩⟩⟩⟩⟩⟩⟩⟩⟩⟩⟩⟩⟩⟩⟩
theorem zCo12 : ∀ e ∈ zCT12, zCok 12 e := fun _ h => absurd h List.not_mem_nil
theorem zCo13 : ∀ e ∈ zCT13, zCok 13 e := fun _ h => absurd h List.not_mem_nil
theorem zCall_ok {c i kd np : Nat} {m : zD} (h : zCall c i = some (kd, np, m)) : zCok c (i, kd, np, m) := by
  unfold zCall at h
  obtain ⟨e, he, h2⟩ := Option.map_eq_some_iff.mp h
  have hm := List.mem_of_find?_eq_some he
  have hi : e.1 = i := by have := List.find?_some he; simpa using this
  have hee : e = (i, kd, np, m) := by rw [← hi, ← h2]
  rw [hee] at hm
  match c, hm with
  | 0, hm => exact zCo0 _ hm
  | 1, hm => exact zCo1 _ hm
  | 2, hm => exact zCo2 _ hm
  | 3, hm => exact zCo3 _ hm
  | 4, hm => exact zCo4 _ hm
  | 5, hm => exact zCo5 _ hm
  | 6, hm => exact zCo6 _ hm
  | 7, hm => exact zCo7 _ hm
  | 8, hm => exact zCo8 _ hm
  | 9, hm => exact zCo9 _ hm
  | 10, hm => exact zCo10 _ hm
  | 11, hm => exact zCo11 _ hm
  | 12, hm => exact zCo12 _ hm
  | 13, hm => exact zCo13 _ hm
  | c + 14, hm => exact absurd hm List.not_mem_nil
theorem zObj_ok {c i : Nat} (h : zObj c i = true) : Cond.methodLink (zCn c) i Lib.objectInit ∈ zGW := by
  match c, h with
  | 0, h =>
    have e : i = 3 := by simpa [zObj] using h
    subst e
    exact zmr 1051 rfl rfl
  | 1, h =>
    have e : i = 3 := by simpa [zObj] using h
    subst e
    exact zmr 1061 rfl rfl
  | 2, h =>
    have e : i = 3 := by simpa [zObj] using h
    subst e
    exact zmr 1161 rfl rfl
  | 3, h =>
    have e : i = 3 := by simpa [zObj] using h
    subst e
    exact zmr 1041 rfl rfl
  | 4, h =>
    have e : i = 3 := by simpa [zObj] using h
    subst e
    exact zmr 1192 rfl rfl
  | 5, h =>
    have e : i = 3 := by simpa [zObj] using h
    subst e
    exact zmr 1220 rfl rfl
  | 6, h =>
    have e : i = 3 := by simpa [zObj] using h
    subst e
    exact zmr 1144 rfl rfl
  | 7, h =>
    have e : i = 3 := by simpa [zObj] using h
    subst e
    exact zmr 1099 rfl rfl
  | 8, h =>
    have e : i = 3 := by simpa [zObj] using h
    subst e
    exact zmr 1027 rfl rfl
  | 9, h =>
    have e : i = 1 := by simpa [zObj] using h
    subst e
    exact zmr 1019 rfl rfl
  | 10, h =>
    have e : i = 1 := by simpa [zObj] using h
    subst e
    exact zmr 4086 rfl rfl
  | c + 11, h => simp [zObj] at h
theorem zObj_i : Cond.instanceMethod Lib.objectInit ∈ zGW := zmr 1020 rfl rfl
theorem zObj_c : Cond.code Lib.objectInit ⟨#[0xb1]⟩ 1 none ∈ zGW := zmr 1021 rfl rfl
def zMn (a : Nat) : MethodName := match a with
  | 0 => Lib.Math.max.name
  | 1 => Lib.Math.min.name
  | _ => Lib.Math.abs.name
theorem zMth_ok {c i a : Nat} (h : zMth c i = some a) : Cond.methodLink (zCn c) i (zMn a) ∈ zGW ∧ (a = 0 ∨ a = 1 ∨ a = 2) := by
  unfold zMth at h
  split at h
  · cases h; exact ⟨zmr 2135 rfl rfl, by decide⟩
  · cases h; exact ⟨zmr 2155 rfl rfl, by decide⟩
  · cases h; exact ⟨zmr 2055 rfl rfl, by decide⟩
  · cases h
theorem zMs0 : Cond.static Lib.Math.max.name ∈ zGW := zmr 2056 rfl rfl
theorem zMc0 : Cond.code Lib.Math.max.name Lib.Math.max.code 2 (some .int) ∈ zGW := zmr 2057 rfl rfl
theorem zMs1 : Cond.static Lib.Math.min.name ∈ zGW := zmr 2156 rfl rfl
theorem zMc1 : Cond.code Lib.Math.min.name Lib.Math.min.code 2 (some .int) ∈ zGW := zmr 2157 rfl rfl
theorem zMs2 : Cond.static Lib.Math.abs.name ∈ zGW := zmr 2136 rfl rfl
theorem zMc2 : Cond.code Lib.Math.abs.name Lib.Math.abs.code 1 (some .int) ∈ zGW := zmr 2137 rfl rfl
theorem zCst_ok {c i : Nat} {v : Int} (h : zCst c i = some v) : Cond.constant (zCn c) i (Int32.ofInt v) ∈ zGW ∧ zR v := by
  unfold zCst at h
  split at h
  · cases h; exact ⟨zmr 2146 rfl rfl, by decide, by decide⟩
  · cases h; exact ⟨zmr 3061 rfl rfl, by decide, by decide⟩
  · cases h; exact ⟨zmr 3062 rfl rfl, by decide, by decide⟩
  · cases h; exact ⟨zmr 3063 rfl rfl, by decide, by decide⟩
  · cases h; exact ⟨zmr 3176 rfl rfl, by decide, by decide⟩
  · cases h; exact ⟨zmr 5000 rfl rfl, by decide, by decide⟩
  · cases h
theorem zCstL_ok {c i : Nat} {v : Int64} (h : zCstL c i = some v) : Cond.constantLong (zCn c) i v ∈ zGW := by
  unfold zCstL at h
  split at h
  · cases h; exact zmr 4053 rfl rfl
  · cases h; exact zmr 4058 rfl rfl
  · cases h; exact zmr 6049 rfl rfl
  · cases h; exact zmr 6058 rfl rfl
  · cases h
def zSn (a : Nat) : String := match a with
  | 0 => "GROUP_OF_LETTER"
  | 1 => "COST_OF_KIND"
  | _ => "STEP_OF_KIND"
theorem zStat_ok {c i a : Nat} (h : zStat c i = some a) : Cond.fieldLinkNest (zCn c) i "StopPress" (zSn a) "[I" "StopPress" ∈ zNW ∧ a < 3 := by
  unfold zStat at h
  split at h
  · cases h; exact ⟨List.mem_of_getElem? (i := 9) (by decide +kernel), by decide⟩
  · cases h; exact ⟨List.mem_of_getElem? (i := 10) (by decide +kernel), by decide⟩
  · cases h; exact ⟨List.mem_of_getElem? (i := 11) (by decide +kernel), by decide⟩
  · cases h; exact ⟨List.mem_of_getElem? (i := 12) (by decide +kernel), by decide⟩
  · cases h
theorem zNew_ok {c i C : Nat} (h : zNew c i = some C) : Cond.classLink (zCn c) i (zCn C) ∈ zGW ∧ Cond.instantiable (zCn C) (zNF C) ∈ zGW ∧ Cond.initialized (zCn C) ∈ zGW ∧ C < 11 := by
  unfold zNew at h
  split at h
  · cases h; exact ⟨zmr 1014 rfl rfl, zmr 1015 rfl rfl, zmr 1001 rfl rfl, by decide⟩
  · cases h; exact ⟨zmr 4081 rfl rfl, zmr 4082 rfl rfl, zmr 1011 rfl rfl, by decide⟩
  · cases h; exact ⟨zmr 1022 rfl rfl, zmr 1023 rfl rfl, zmr 1002 rfl rfl, by decide⟩
  · cases h; exact ⟨zmr 1036 rfl rfl, zmr 1037 rfl rfl, zmr 1003 rfl rfl, by decide⟩
  · cases h; exact ⟨zmr 1094 rfl rfl, zmr 1095 rfl rfl, zmr 1006 rfl rfl, by decide⟩
  · cases h; exact ⟨zmr 1139 rfl rfl, zmr 1140 rfl rfl, zmr 1007 rfl rfl, by decide⟩
  · cases h; exact ⟨zmr 1156 rfl rfl, zmr 1157 rfl rfl, zmr 1008 rfl rfl, by decide⟩
  · cases h; exact ⟨zmr 1187 rfl rfl, zmr 1188 rfl rfl, zmr 1009 rfl rfl, by decide⟩
  · cases h; exact ⟨zmr 1215 rfl rfl, zmr 1216 rfl rfl, zmr 1010 rfl rfl, by decide⟩
  · cases h; exact ⟨zmr 1042 rfl rfl, zmr 1023 rfl rfl, zmr 1002 rfl rfl, by decide⟩
  · cases h; exact ⟨zmr 1044 rfl rfl, zmr 1057 rfl rfl, zmr 1005 rfl rfl, by decide⟩
  · cases h; exact ⟨zmr 1046 rfl rfl, zmr 1047 rfl rfl, zmr 1004 rfl rfl, by decide⟩
  · cases h
theorem zM6 : Cond.classLink (zCn 6) 9 "[[I" ∈ zGW := zmr 1145 rfl rfl
theorem zM7 : Cond.classLink (zCn 7) 9 "[[I" ∈ zGW := zmr 1100 rfl rfl
theorem zAi : Cond.arrayClass .int ∈ zGW := zmr 1035 rfl rfl
theorem zAz : Cond.arrayClass .boolean ∈ zGW := zmr 4184 rfl rfl
theorem zAoT : Cond.arrayOver (.object "StopPress$Text") ∈ lw_tbl := zPl_in (p := 1043) rfl
theorem zAoA : Cond.arrayOver (.object "StopPress$Alignment") ∈ lw_tbl := zPl_in (p := 1045) rfl
theorem zAoI : Cond.arrayOver (.array .int) ∈ lw_tbl := zPl_in (p := 1101) rfl
theorem zLs0 : Cond.laysStatic "StopPress" "GROUP_OF_LETTER" "[I" ∈ lw_tbl := zPl_in (p := 2152) rfl
theorem zLs1 : Cond.laysStatic "StopPress" "COST_OF_KIND" "[I" ∈ lw_tbl := zPl_in (p := 2154) rfl
theorem zLs2 : Cond.laysStatic "StopPress" "STEP_OF_KIND" "[I" ∈ lw_tbl := zPl_in (p := 2167) rfl
theorem zIn0 : Cond.initialized (zCn 0) ∈ zGW := zmr 1004 rfl rfl
theorem zIn1 : Cond.initialized (zCn 1) ∈ zGW := zmr 1005 rfl rfl
theorem zIn2 : Cond.initialized (zCn 2) ∈ zGW := zmr 1008 rfl rfl
theorem zIn3 : Cond.initialized (zCn 3) ∈ zGW := zmr 1003 rfl rfl
theorem zIn4 : Cond.initialized (zCn 4) ∈ zGW := zmr 1009 rfl rfl
theorem zIn5 : Cond.initialized (zCn 5) ∈ zGW := zmr 1010 rfl rfl
theorem zIn6 : Cond.initialized (zCn 6) ∈ zGW := zmr 1007 rfl rfl
theorem zIn7 : Cond.initialized (zCn 7) ∈ zGW := zmr 1006 rfl rfl
theorem zIn8 : Cond.initialized (zCn 8) ∈ zGW := zmr 1002 rfl rfl
theorem zIn9 : Cond.initialized (zCn 9) ∈ zGW := zmr 1001 rfl rfl
theorem zIn10 : Cond.initialized (zCn 10) ∈ zGW := zmr 1011 rfl rfl
theorem zIn11 : Cond.initialized (zCn 11) ∈ zGW := zmr 1000 rfl rfl
theorem zIn12 : Cond.initialized (zCn 12) ∈ zGW := zmr 1013 rfl rfl
theorem zIn13 : Cond.initialized (zCn 13) ∈ zGW := zmr 1012 rfl rfl
end
section
/-! THE MACHINE GOES AS THE SMALL MACHINE DOES: one step at a time. Numbers first. -/
theorem zR_of (x : Int32) : zR x.toInt := by
  have h1 := Int32.le_toInt x
  have h2 := Int32.toInt_lt x
  unfold zR
  omega
theorem z_of {a : Int} (h : zR a) : (Int32.ofInt a).toInt = a := by
  unfold zR at h
  exact Int32.toInt_ofInt_of_le (by omega) (by omega)
theorem z_re (x : Int32) : Int32.ofInt x.toInt = x := Int32.ofInt_toInt x
theorem z_lt {a b : Int} (ha : zR a) (hb : zR b) : Int32.ofInt a < Int32.ofInt b ↔ a < b := by
  rw [Int32.lt_iff_toInt_lt, z_of ha, z_of hb]
theorem z_le {a b : Int} (ha : zR a) (hb : zR b) : Int32.ofInt a ≤ Int32.ofInt b ↔ a ≤ b := by
  rw [Int32.le_iff_toInt_le, z_of ha, z_of hb]
theorem z_eq {a b : Int} (ha : zR a) (hb : zR b) : Int32.ofInt a = Int32.ofInt b ↔ a = b := by
  rw [← Int32.toInt_inj, z_of ha, z_of hb]
theorem zR_0 : zR 0 := by unfold zR; omega
theorem z_0 : Int32.ofInt 0 = 0 := by decide
theorem z_lt0 {a : Int} (ha : zR a) : Int32.ofInt a < 0 ↔ a < 0 := by rw [← z_0, z_lt ha zR_0]
theorem z_le0 {a : Int} (ha : zR a) : Int32.ofInt a ≤ 0 ↔ a ≤ 0 := by rw [← z_0, z_le ha zR_0]
theorem z_0lt {a : Int} (ha : zR a) : 0 < Int32.ofInt a ↔ 0 < a := by rw [← z_0, z_lt zR_0 ha]
theorem z_0le {a : Int} (ha : zR a) : 0 ≤ Int32.ofInt a ↔ 0 ≤ a := by rw [← z_0, z_le zR_0 ha]
theorem z_eq0 {a : Int} (ha : zR a) : Int32.ofInt a = 0 ↔ a = 0 := by rw [← z_0, z_eq ha zR_0]
theorem z_cl {a : Int} (ha : zR a) : (Int32.ofInt a).toNatClampNeg = a.toNat := by
  show (Int32.ofInt a).toInt.toNat = a.toNat
  rw [z_of ha]
theorem z_in {a : Int} {n : Nat} (ha : zR a) (h0 : 0 ≤ a) (h1 : a < n) : ¬ (Int32.ofInt a < 0 ∨ n ≤ (Int32.ofInt a).toNatClampNeg) := by
  rw [z_lt0 ha, z_cl ha]
  omega
theorem zR_sm {n : Int} (h1 : -32768 ≤ n) (h2 : n < 32768) : zR n := by unfold zR; omega
theorem z_i8 {n : Int} (h : -128 ≤ n ∧ n < 128) : (Int8.ofInt n).toInt32 = Int32.ofInt n := by
  rw [← Int32.toInt_inj, Int8.toInt_toInt32, Int8.toInt_ofInt_of_le (by omega) (by omega), z_of (zR_sm (by omega) (by omega))]
theorem z_i16 {n : Int} (h : -32768 ≤ n ∧ n < 32768) : (Int16.ofInt n).toInt32 = Int32.ofInt n := by
  rw [← Int32.toInt_inj, Int16.toInt_toInt32, Int16.toInt_ofInt_of_le (by omega) (by omega), z_of (zR_sm (by omega) (by omega))]
theorem zR_nat {n : Nat} (h : n < 100000) : zR (n : Int) := by unfold zR; omega
theorem z_lg (x : Int64) : zLg (zHi x) (zLo x) = x := by
  have h : x.toInt / 4294967296 * 4294967296 + (if zLo x < 0 then zLo x + 4294967296 else zLo x) = x.toInt := by
    unfold zLo
    split <;> split <;> omega
  unfold zLg zHi
  rw [h, Int64.ofInt_toInt]
theorem zR_hi (x : Int64) : zR (zHi x) := by
  have h1 := Int64.le_toInt x
  have h2 := Int64.toInt_lt x
  unfold zR zHi
  omega
theorem zR_lo (x : Int64) : zR (zLo x) := by unfold zR zLo; split <;> omega
/-! the picture -/
def zRf (ad : Nat → Nat) (x : Int) : Value := if x < 0 then .null else .ref (ad x.toNat)
def zE (ad : Nat → Nat) (v : zV) : Value := match v with
  | .inl a => .int (Int32.ofInt a)
  | .inr (.inl x) => .long x
  | .inr (.inr (.inl a)) => .ref (ad a)
  | .inr (.inr (.inr _)) => .null
def zFv (ad : Nat → Nat) (K M : zM) (a c k : Nat) : Value := if zTy c k = 3 then zRf ad (K a k) else if zTy c k = 2 then .long (zLg (M a k) (M a (k + 1000))) else .int (Int32.ofInt (M a k))
def zAv (ad : Nat → Nat) (K M : zM) (a kd j : Nat) : Value := if kd = 20 ∨ kd = 21 then .int (Int32.ofInt (M a j)) else zRf ad (K a j)
def zCell (D : va_G) (cA : Nat → ClassId) (ad : Nat → Nat) (K M : zM) (H : Heap) (a : Nat) (q : Nat × Nat) : Prop :=
  (q.1 < 11 → t_OB (ad a) (D.1 q.1) (zNF q.1) (D.2 q.1) H (fun k => zFv ad K M a q.1 k)) ∧
  (20 ≤ q.1 → q.1 ≤ 24 → H[ad a]? = some (arrV (cA q.1) q.2 (fun j => zAv ad K M a q.1 j)))
/-- an array of ints that lies below: at least its first n places -/
def zX (b n : Nat) (xs : Nat → Int32) (U : State) (H : Heap) : Prop := ∃ cell : Cell, H[b]? = some cell ∧ U.isArrayOf cell .int ∧ cell.vm ≠ .unknown ∧ n ≤ cell.slots.size ∧ cell.slots.size.toInt32 = Int32.ofNat n ∧ ∀ j : Nat, j < n → cell.slots[j]? = some (.int (xs j))
def zRel (D : va_G) (cA : Nat → ClassId) (ad : Nat → Nat) (base : Nat) (q : zS) (U : State) (H : Heap) : Prop :=
  H.size + 4 = base + q.1.length ∧ 4 ≤ q.1.length ∧ (∀ (a : Nat) (e : Nat × Nat), 4 ≤ a → q.1[a]? = some e → zCell D cA ad q.2.1 q.2.2 H a e) ∧
  (∀ (a n : Nat), a < 4 → q.1[a]? = some (20, n) → zX (ad a) n (fun j => Int32.ofInt (q.2.2 a j)) U H) ∧ (∀ (a : Nat) (e : Nat × Nat), a < 4 → q.1[a]? = some e → e.1 = 20 ∨ e.1 = 99) ∧ ∀ a k, zR (q.2.2 a k)
def zAdr (ad : Nat → Nat) (base : Nat) : Prop := (∀ a, 4 ≤ a → ad a = base + (a - 4)) ∧ ∀ a, a < 4 → ad a < base
abbrev zA (base : Nat) : Nat → Prop := fun q => base ≤ q
def zTys (cA : Nat → ClassId) : List (ClassId × FieldType) := [(cA 20, .int), (cA 21, .boolean), (cA 22, .object "StopPress$Text"), (cA 23, .object "StopPress$Alignment"), (cA 24, .array .int)]
def zEnv (D : va_G) (cA : Nat → ClassId) (ad : Nat → Nat) (base : Nat) (U : State) : Prop :=
  zAdr ad base ∧ va_K D zCls (zTys cA) U ∧ (∀ w ∈ zNW, va_Nw w U) ∧ va_AO "StopPress$Text" U ∧ va_AO "StopPress$Alignment" U ∧ (Cond.arrayOver (.array .int)).before #[] U = true ∧ (∀ a, a < 3 → va_Z "StopPress" (zSn a) "[I" (.ref (ad a)) (zA base) U U.heap) ∧ base ≤ U.heap.size
def zLR (ad : Nat → Nat) (nL : Nat) (ls : List zV) (lsR : Array Slot) : Prop := lsR.size = nL ∧ ls.length = nL ∧ lv_wf lsR ∧ ∀ (k : Nat) (v : zV), ls[k]? = some v → v ≠ uV → lsR[k]? = some (.val (zE ad v))
def zOk (v : zV) : Prop := match v with
  | .inl a => zR a
  | _ => True
def zIn (D : va_G) (cA : Nat → ClassId) (ad : Nat → Nat) (base : Nat) (s : State) (m : zD) (ls st : List zV) (q : zS) (H : Heap) (locs : List Loc) (lsR : Array Slot) : Prop :=
  zRel D cA ad base q s H ∧ zLR ad m.2.2.2.1 ls lsR ∧ (∀ v ∈ ls, zOk v) ∧ (∀ v ∈ st, zOk v) ∧ va_S (zA base) s.heap H locs
def zFx (p : Program) (R : Room) (s : State) (mid : MethodId) (args : Array Value) (meth : Method) (c : Code) (m : zD) (d : Nat) : Prop :=
  p.tables.exec = Jvm.exec ∧ c.code = m.2.2.1 ∧ c.maxLocals = m.2.2.2.1 ∧ s.vm.findClass (zCn m.1) = some mid.cls ∧ (∀ w ∈ zGW, w.before args s = true) ∧ meth.sig.returnType = m.2.2.2.2 ∧ meth.locks = false ∧ (m.2.1.name = "<init>" → meth.name = "<init>") ∧ d + 1 ≤ R.frames ∧ 42 * (d + 1) ≤ R.locals
def zSz (q : zS) : Nat := (q.1.map Prod.snd).sum
theorem zNx_inv {ok : Bool} {pc pc' : Nat} {ls ls' st st' : List zV} {q q' : zS} (h : zNx ok pc ls st q = some (.inl (pc', ls', st', q'))) : ok = true ∧ pc = pc' ∧ ls = ls' ∧ st = st' ∧ q = q' := by
  unfold zNx at h
  split at h
  · next ho =>
    simp only [Option.some.injEq, Sum.inl.injEq, Prod.mk.injEq] at h
    exact ⟨ho, h.1, h.2.1, h.2.2.1, h.2.2.2⟩
  · cases h
def zUn (v : zV) : Bool := match v with
  | .inr (.inr (.inr _)) => true
  | _ => false
theorem zUn_t {v : zV} (h : zUn v = true) : v = uV := by
  match v, h with
  | .inr (.inr (.inr ())), _ => rfl
  | .inl a, h => cases h
  | .inr (.inl a), h => cases h
  | .inr (.inr (.inl a)), h => cases h
/-- the assoc list of the locals that are set -/
def zAl (ad : Nat → Nat) (ls : List zV) : List (Nat × Value) := (List.range ls.length).filterMap (fun (k : Nat) => (ls[k]?).bind (fun (v : zV) => if zUn v = true then none else some (k, zE ad v)))
theorem zAl_mem {ad : Nat → Nat} {ls : List zV} {k : Nat} {w : Value} (h : (k, w) ∈ zAl ad ls) : ∃ v, ls[k]? = some v ∧ v ≠ uV ∧ w = zE ad v := by
  unfold zAl at h
  obtain ⟨j, hj, h2⟩ := List.mem_filterMap.mp h
  obtain ⟨v, hv, h3⟩ := Option.bind_eq_some_iff.mp h2
  split at h3
  · cases h3
  · next hn =>
    cases h3
    exact ⟨v, hv, fun e => hn (by rw [e]; rfl), rfl⟩
theorem zAl_in {ad : Nat → Nat} {ls : List zV} {k : Nat} {v : zV} (h : ls[k]? = some v) (hv : v ≠ uV) : (k, zE ad v) ∈ zAl ad ls := by
  unfold zAl
  refine List.mem_filterMap.mpr ⟨k, List.mem_range.mpr (List.getElem?_eq_some_iff.mp h).1, ?_⟩
  rw [h]
  simp only [Option.bind_some]
  rw [if_neg (fun e => hv (zUn_t e))]
theorem zLR_has {ad : Nat → Nat} {nL : Nat} {ls : List zV} {lsR : Array Slot} (h : zLR ad nL ls lsR) : lv_has lsR nL (zAl ad ls) := by
  refine ⟨h.1, h.2.2.1, fun q hq => ?_⟩
  obtain ⟨v, h1, h2, h3⟩ := zAl_mem (k := q.1) (w := q.2) hq
  rw [h3]
  exact h.2.2.2 _ _ h1 h2
theorem zE_cat (ad : Nat → Nat) (v : zV) : (zE ad v).category = zCat v := by
  match v with
  | .inl a => rfl
  | .inr (.inl a) => rfl
  | .inr (.inr (.inl a)) => rfl
  | .inr (.inr (.inr ())) => rfl
theorem zCat2 {v : zV} (h : zCat v = 2) : ∃ x, v = lV x := by
  match v, h with
  | .inr (.inl a), _ => exact ⟨a, rfl⟩
  | .inl a, h => cases h
  | .inr (.inr _), h => cases h
theorem zFree_ok {ls : List zV} {k j : Nat} {v : zV} (h : zFree ls k = true) (hj : ls[j]? = some v) (e : j + 1 = k) : zCat v = 1 := by
  subst e
  have h2 : (match ls[j]? with
    | some v => zCat v == 1
    | none => true) = true := h
  rw [hj] at h2
  simpa using h2
theorem zLR_set {ad : Nat → Nat} {nL i : Nat} {ls : List zV} {ls' : Array Slot} {v : zV} (hlen : ls.length = nL) (hf : zFree ls i = true)
    (h' : lv_has ls' nL ((i, zE ad v) :: (zAl ad ls).filter (fun q => !(q.1 == i) && !(q.1 + 1 == i && q.2.category == 2)))) : zLR ad nL (ls.set i v) ls' := by
  refine ⟨h'.1, by rw [List.length_set]; exact hlen, h'.2.1, fun k w hk hw => ?_⟩
  by_cases e : k = i
  · subst e
    have hlt : k < ls.length := by have := (List.getElem?_eq_some_iff.mp hk).1; rwa [List.length_set] at this
    rw [List.getElem?_set_self hlt] at hk
    cases hk
    exact h'.2.2 _ List.mem_cons_self
  · rw [List.getElem?_set_ne (fun q => e q.symm)] at hk
    refine h'.2.2 (k, zE ad w) (List.mem_cons_of_mem _ (List.mem_filter.mpr ⟨zAl_in hk hw, ?_⟩))
    have h1 : (k == i) = false := by simpa using e
    simp only [h1, Bool.not_false, Bool.true_and, Bool.not_eq_true', Bool.and_eq_false_iff, beq_eq_false_iff_ne, zE_cat]
    by_cases e2 : k + 1 = i
    · exact Or.inr (by rw [zFree_ok hf hk e2]; decide)
    · exact Or.inl e2
theorem zLR_set2 {ad : Nat → Nat} {nL i : Nat} {ls : List zV} {ls' : Array Slot} {x : Int64} (hlen : ls.length = nL) (hf : zFree ls i = true) (hi : i + 1 < nL)
    (h' : lv_has ls' nL ((i, Value.long x) :: (zAl ad ls).filter (fun q => !(q.1 == i) && (!(q.1 == i + 1) && !(q.1 + 1 == i && q.2.category == 2))))) : zLR ad nL ((ls.set i (lV x)).set (i + 1) uV) ls' := by
  refine ⟨h'.1, by rw [List.length_set, List.length_set]; exact hlen, h'.2.1, fun k w hk hw => ?_⟩
  by_cases e1 : k = i + 1
  · subst e1
    rw [List.getElem?_set_self (by rw [List.length_set]; omega)] at hk
    cases hk
    exact absurd rfl hw
  · rw [List.getElem?_set_ne (fun q => e1 q.symm)] at hk
    by_cases e : k = i
    · subst e
      rw [List.getElem?_set_self (by omega)] at hk
      cases hk
      exact h'.2.2 _ List.mem_cons_self
    · rw [List.getElem?_set_ne (fun q => e q.symm)] at hk
      refine h'.2.2 (k, zE ad w) (List.mem_cons_of_mem _ (List.mem_filter.mpr ⟨zAl_in hk hw, ?_⟩))
      have h1 : (k == i) = false := by simpa using e
      have h2 : (k == i + 1) = false := by simpa using e1
      simp only [h1, h2, Bool.not_false, Bool.true_and, Bool.not_eq_true', Bool.and_eq_false_iff, beq_eq_false_iff_ne, zE_cat]
      by_cases e2 : k + 1 = i
      · exact Or.inr (by rw [zFree_ok hf hk e2]; decide)
      · exact Or.inl e2
theorem zOk_set {ls : List zV} {i : Nat} {v : zV} (h : ∀ w ∈ ls, zOk w) (hv : zOk v) : ∀ w ∈ ls.set i v, zOk w := by
  intro w hw
  rcases List.mem_or_eq_of_mem_set hw with h1 | h1
  · exact h w h1
  · rw [h1]; exact hv
theorem zOk_cons {st : List zV} {v : zV} (hv : zOk v) (h : ∀ w ∈ st, zOk w) : ∀ w ∈ v :: st, zOk w := List.forall_mem_cons.mpr ⟨hv, h⟩
end
section
/-! steps that leave the heap alone -/
section ZP
variable {p : Program} {l : Launch} {e : Env} {R : Room} {s : State} {mid : MethodId} {args : Array Value} {below : List Frame} {meth : Method} {c : Code} {H : Heap} {locs : List Loc} {cells slots : Nat} {Q : State → Prop} {D : va_G} {cA : Nat → ClassId} {ad : Nat → Nat} {base : Nat}
variable {m : zD} {d pc pc' len : Nat} {ls ls' st st' : List zV} {q q' : zS} {lsR : Array Slot}
/-- what is to be shown of one step -/
def zGoal (p : Program) (l : Launch) (e : Env) (R : Room) (s : State) (mid : MethodId) (args : Array Value) (below : List Frame) (meth : Method) (c : Code) (D : va_G) (cA : Nat → ClassId) (ad : Nat → Nat) (base : Nat) (m : zD) (cells slots : Nat) (Q : State → Prop) (q : zS) (pc' : Nat) (ls' st' : List zV) (q' : zS) : Prop :=
  ∀ (H' : Heap) (locs' : List Loc) (lsR' : Array Slot), zIn D cA ad base s m ls' st' q' H' locs' lsR' → W p l e R s mid args below meth c H' locs' (cells + (q'.1.length - q.1.length)) (slots + (zSz q' - zSz q)) Q (F0 mid pc' lsR' (st'.map (zE ad)))
theorem zGoal.same {H : Heap} {locs : List Loc} {lsR : Array Slot} (kk : zGoal p l e R s mid args below meth c D cA ad base m cells slots Q q pc' ls' st' q) (I : zIn D cA ad base s m ls' st' q H locs lsR) : W p l e R s mid args below meth c H locs cells slots Q (F0 mid pc' lsR (st'.map (zE ad))) := by
  have h := kk H locs lsR I
  rw [Nat.sub_self, Nat.sub_self, Nat.add_zero, Nat.add_zero] at h
  exact h
theorem zIn.stk {st2 : List zV} (I : zIn D cA ad base s m ls st q H locs lsR) (h : ∀ v ∈ st2, zOk v) : zIn D cA ad base s m ls st2 q H locs lsR := ⟨I.1, I.2.1, I.2.2.1, h, I.2.2.2.2⟩
theorem zIn.loc {ls2 : List zV} {st2 : List zV} {lsR2 : Array Slot} (I : zIn D cA ad base s m ls st q H locs lsR) (h1 : zLR ad m.2.2.2.1 ls2 lsR2) (h2 : ∀ v ∈ ls2, zOk v) (h : ∀ v ∈ st2, zOk v) : zIn D cA ad base s m ls2 st2 q H locs lsR2 := ⟨I.1, h1, h2, h, I.2.2.2.2⟩
theorem zs_push {v : zV} (row : W p l e R s mid args below meth c H locs cells slots Q (F0 mid pc' lsR (zE ad v :: st.map (zE ad))) → W p l e R s mid args below meth c H locs cells slots Q (F0 mid pc lsR (st.map (zE ad)))) (hv : zOk v)
    (I : zIn D cA ad base s m ls st q H locs lsR) (kk : zGoal p l e R s mid args below meth c D cA ad base m cells slots Q q pc' ls (v :: st) q) : W p l e R s mid args below meth c H locs cells slots Q (F0 mid pc lsR (st.map (zE ad))) :=
  row (kk.same (I.stk (zOk_cons hv I.2.2.2.1)))
theorem zs_ldI {w k : Nat} (h : zLdI pc len w k ls st q = some (.inl (pc', ls', st', q'))) (I : zIn D cA ad base s m ls st q H locs lsR)
    (row : len = w → ∀ (x : Int32) (rest : List Value), lsR[k]? = some (.val (.int x)) → W p l e R s mid args below meth c H locs cells slots Q (F0 mid (pc + w) lsR (.int x :: rest)) → W p l e R s mid args below meth c H locs cells slots Q (F0 mid pc lsR rest))
    (kk : zGoal p l e R s mid args below meth c D cA ad base m cells slots Q q pc' ls' st' q') : W p l e R s mid args below meth c H locs cells slots Q (F0 mid pc lsR (st.map (zE ad))) := by
  unfold zLdI at h
  split at h
  · next a ha =>
    obtain ⟨h1, rfl, rfl, rfl, rfl⟩ := zNx_inv h
    exact row (by simpa using h1) _ _ (I.2.1.2.2.2 k (iV a) ha (fun e => by cases e)) (kk.same (I.stk (zOk_cons (I.2.2.1 _ (List.mem_of_getElem? ha)) I.2.2.2.1)))
  · cases h
theorem zs_ldL {w k : Nat} (h : zLdL pc len w k ls st q = some (.inl (pc', ls', st', q'))) (I : zIn D cA ad base s m ls st q H locs lsR)
    (row : len = w → ∀ (x : Int64) (rest : List Value), lsR[k]? = some (.val (.long x)) → W p l e R s mid args below meth c H locs cells slots Q (F0 mid (pc + w) lsR (.long x :: rest)) → W p l e R s mid args below meth c H locs cells slots Q (F0 mid pc lsR rest))
    (kk : zGoal p l e R s mid args below meth c D cA ad base m cells slots Q q pc' ls' st' q') : W p l e R s mid args below meth c H locs cells slots Q (F0 mid pc lsR (st.map (zE ad))) := by
  unfold zLdL at h
  split at h
  · next a ha =>
    obtain ⟨h1, rfl, rfl, rfl, rfl⟩ := zNx_inv h
    exact row (by simpa using h1) _ _ (I.2.1.2.2.2 k (lV a) ha (fun e => by cases e)) (kk.same (I.stk (zOk_cons trivial I.2.2.2.1)))
  · cases h
theorem zs_ldA {w k : Nat} (h : zLdA pc len w k ls st q = some (.inl (pc', ls', st', q'))) (I : zIn D cA ad base s m ls st q H locs lsR)
    (row : len = w → ∀ (x : Nat) (rest : List Value), lsR[k]? = some (.val (.ref x)) → W p l e R s mid args below meth c H locs cells slots Q (F0 mid (pc + w) lsR (.ref x :: rest)) → W p l e R s mid args below meth c H locs cells slots Q (F0 mid pc lsR rest))
    (kk : zGoal p l e R s mid args below meth c D cA ad base m cells slots Q q pc' ls' st' q') : W p l e R s mid args below meth c H locs cells slots Q (F0 mid pc lsR (st.map (zE ad))) := by
  unfold zLdA at h
  split at h
  · next a ha =>
    obtain ⟨h1, rfl, rfl, rfl, rfl⟩ := zNx_inv h
    exact row (by simpa using h1) _ _ (I.2.1.2.2.2 k (rV a) ha (fun e => by cases e)) (kk.same (I.stk (zOk_cons trivial I.2.2.2.1)))
  · cases h
theorem zs_stI {w k : Nat} (h : zStI pc len w k ls st q = some (.inl (pc', ls', st', q'))) (I : zIn D cA ad base s m ls st q H locs lsR)
    (row : len = w → ∀ (x : Int32) (rest : List Value), k < m.2.2.2.1 → (∀ lsR' : Array Slot, lv_has lsR' m.2.2.2.1 ((k, .int x) :: (zAl ad ls).filter (fun q => !(q.1 == k) && !(q.1 + 1 == k && q.2.category == 2))) → W p l e R s mid args below meth c H locs cells slots Q (F0 mid (pc + w) lsR' rest)) → W p l e R s mid args below meth c H locs cells slots Q (F0 mid pc lsR (.int x :: rest)))
    (kk : zGoal p l e R s mid args below meth c D cA ad base m cells slots Q q pc' ls' st' q') : W p l e R s mid args below meth c H locs cells slots Q (F0 mid pc lsR (st.map (zE ad))) := by
  unfold zStI at h
  split at h
  · next a r =>
    obtain ⟨h1, rfl, rfl, rfl, rfl⟩ := zNx_inv h
    simp only [Bool.and_eq_true, beq_iff_eq, decide_eq_true_eq] at h1
    obtain ⟨⟨h1, h2⟩, h3⟩ := h1
    have hk := List.forall_mem_cons.mp I.2.2.2.1
    exact row h1 _ _ (by rw [← I.2.1.2.1]; exact h2) fun lsR' hl => kk.same (I.loc (zLR_set (v := iV a) I.2.1.2.1 h3 hl) (zOk_set I.2.2.1 hk.1) hk.2)
  · cases h
theorem zs_stA {w k : Nat} (h : zStA pc len w k ls st q = some (.inl (pc', ls', st', q'))) (I : zIn D cA ad base s m ls st q H locs lsR)
    (row : len = w → ∀ (x : Nat) (rest : List Value), k < m.2.2.2.1 → (∀ lsR' : Array Slot, lv_has lsR' m.2.2.2.1 ((k, .ref x) :: (zAl ad ls).filter (fun q => !(q.1 == k) && !(q.1 + 1 == k && q.2.category == 2))) → W p l e R s mid args below meth c H locs cells slots Q (F0 mid (pc + w) lsR' rest)) → W p l e R s mid args below meth c H locs cells slots Q (F0 mid pc lsR (.ref x :: rest)))
    (kk : zGoal p l e R s mid args below meth c D cA ad base m cells slots Q q pc' ls' st' q') : W p l e R s mid args below meth c H locs cells slots Q (F0 mid pc lsR (st.map (zE ad))) := by
  unfold zStA at h
  split at h
  · next a r =>
    obtain ⟨h1, rfl, rfl, rfl, rfl⟩ := zNx_inv h
    simp only [Bool.and_eq_true, beq_iff_eq, decide_eq_true_eq] at h1
    obtain ⟨⟨h1, h2⟩, h3⟩ := h1
    have hk := List.forall_mem_cons.mp I.2.2.2.1
    exact row h1 _ _ (by rw [← I.2.1.2.1]; exact h2) fun lsR' hl => kk.same (I.loc (zLR_set (v := rV a) I.2.1.2.1 h3 hl) (zOk_set I.2.2.1 hk.1) hk.2)
  · cases h
theorem zs_stL {w k : Nat} (h : zStL pc len w k ls st q = some (.inl (pc', ls', st', q'))) (I : zIn D cA ad base s m ls st q H locs lsR)
    (row : len = w → ∀ (x : Int64) (rest : List Value), k + 1 < m.2.2.2.1 → (∀ lsR' : Array Slot, lv_has lsR' m.2.2.2.1 ((k, .long x) :: (zAl ad ls).filter (fun q => !(q.1 == k) && (!(q.1 == k + 1) && !(q.1 + 1 == k && q.2.category == 2)))) → W p l e R s mid args below meth c H locs cells slots Q (F0 mid (pc + w) lsR' rest)) → W p l e R s mid args below meth c H locs cells slots Q (F0 mid pc lsR (.long x :: rest)))
    (kk : zGoal p l e R s mid args below meth c D cA ad base m cells slots Q q pc' ls' st' q') : W p l e R s mid args below meth c H locs cells slots Q (F0 mid pc lsR (st.map (zE ad))) := by
  unfold zStL at h
  split at h
  · next a r =>
    obtain ⟨h1, rfl, rfl, rfl, rfl⟩ := zNx_inv h
    simp only [Bool.and_eq_true, beq_iff_eq, decide_eq_true_eq] at h1
    obtain ⟨⟨h1, h2⟩, h3⟩ := h1
    have hk := List.forall_mem_cons.mp I.2.2.2.1
    have h4 : k + 1 < m.2.2.2.1 := by rw [← I.2.1.2.1]; exact h2
    exact row h1 _ _ h4 fun lsR' hl => kk.same (I.loc (zLR_set2 I.2.1.2.1 h3 h4 hl) (zOk_set (zOk_set I.2.2.1 trivial) trivial) hk.2)
  · cases h
theorem zs_bin {f : Int32 → Int32 → Int32} {okf : Int → Bool} (h : zBin pc len f okf ls st q = some (.inl (pc', ls', st', q'))) (I : zIn D cA ad base s m ls st q H locs lsR)
    (row : len = 1 → ∀ (a b : Int) (rest : List Value), zR b → okf b = true → W p l e R s mid args below meth c H locs cells slots Q (F0 mid (pc + 1) lsR (.int (f (Int32.ofInt a) (Int32.ofInt b)) :: rest)) → W p l e R s mid args below meth c H locs cells slots Q (F0 mid pc lsR (.int (Int32.ofInt b) :: .int (Int32.ofInt a) :: rest)))
    (kk : zGoal p l e R s mid args below meth c D cA ad base m cells slots Q q pc' ls' st' q') : W p l e R s mid args below meth c H locs cells slots Q (F0 mid pc lsR (st.map (zE ad))) := by
  unfold zBin at h
  split at h
  · next b a r =>
    obtain ⟨h1, rfl, rfl, rfl, rfl⟩ := zNx_inv h
    simp only [Bool.and_eq_true, beq_iff_eq] at h1
    have hk := List.forall_mem_cons.mp I.2.2.2.1
    have hk2 := List.forall_mem_cons.mp hk.2
    have h3 := kk.same (I.stk (zOk_cons (zR_of _) hk2.2))
    simp only [List.map_cons, zE, zI2, z_re] at h3
    exact row h1.1 a b _ hk.1 h1.2 h3
  · cases h
theorem zs_jp {ok : Bool} {off : Int} {st2 : List zV} (h : zJp ok pc off ls st2 q = some (.inl (pc', ls', st', q'))) : ok = true ∧ (pc : Int) + off = (pc' : Int) ∧ ls = ls' ∧ st2 = st' ∧ q = q' := by
  obtain ⟨h1, h2, h3, h4, h5⟩ := zNx_inv h
  simp only [Bool.and_eq_true, decide_eq_true_eq] at h1
  exact ⟨h1.1, by omega, h3, h4, h5⟩
end ZP
end
section
/-! steps over the heap -/
theorem zU_eq {M : zM} {a k : Nat} {v : Int} : zU M a k v a k = v := if_pos ⟨rfl, rfl⟩
theorem zU_ne {M : zM} {a k b j : Nat} {v : Int} (h : ¬ (b = a ∧ j = k)) : zU M a k v b j = M b j := if_neg h
theorem zU_na {M : zM} {a k b j : Nat} {v : Int} (h : b ≠ a) : zU M a k v b j = M b j := if_neg (fun q => h q.1)
theorem zU_nk {M : zM} {a k b j : Nat} {v : Int} (h : j ≠ k) : zU M a k v b j = M b j := if_neg (fun q => h q.2)
theorem zR_zU {M : zM} {a k : Nat} {v : Int} (h : ∀ b j, zR (M b j)) (hv : zR v) : ∀ b j, zR (zU M a k v b j) := by
  intro b j
  unfold zU
  split
  · exact hv
  · exact h b j
theorem zAdr.ne {ad : Nat → Nat} {base a b : Nat} (h : zAdr ad base) (ha : 4 ≤ a) (hb : b ≠ a) : ad b ≠ ad a := by
  intro e
  rw [h.1 a ha] at e
  by_cases h4 : 4 ≤ b
  · rw [h.1 b h4] at e; omega
  · have := h.2 b (by omega); omega
theorem zAdr.lt {ad : Nat → Nat} {base a : Nat} (h : zAdr ad base) (ha : 4 ≤ a) : base ≤ ad a := by rw [h.1 a ha]; omega
section ZH
variable {p : Program} {l : Launch} {e : Env} {R : Room} {s : State} {mid : MethodId} {args : Array Value} {below : List Frame} {meth : Method} {c : Code} {H : Heap} {locs : List Loc} {cells slots : Nat} {Q : State → Prop} {D : va_G} {cA : Nat → ClassId} {ad : Nat → Nat} {base : Nat}
variable {m : zD} {d pc pc' len : Nat} {ls ls' st st' : List zV} {q q' : zS} {lsR : Array Slot}
theorem zX_kept {a n : Nat} {xs ys : Nat → Int32} {U : State} {H H' : Heap} (h : zX a n xs U H) (hq : H'[a]? = H[a]?) (hx : ∀ j, xs j = ys j) : zX a n ys U H' := by
  obtain ⟨cell, h1, h2, h3, h4, h5, h6⟩ := h
  exact ⟨cell, by rw [hq]; exact h1, h2, h3, h4, h5, fun j hj => by rw [← hx j]; exact h6 j hj⟩
theorem zX_moved {a n : Nat} {xs : Nat → Int32} {u U : State} {H : Heap} (hvm : u.vm.Alike U.vm) (h : zX a n xs u H) : zX a n xs U H := by
  obtain ⟨cell, h1, h2, h3⟩ := h
  exact ⟨cell, h1, State.isArrayOf_alike hvm h2, h3⟩
theorem zCell_same {K M K' M' : zM} {H H' : Heap} {a : Nat} {e : Nat × Nat} (h : zCell D cA ad K M H a e) (hH : H'[ad a]? = H[ad a]?) (hK : ∀ k, K' a k = K a k) (hM : ∀ k, M' a k = M a k) : zCell D cA ad K' M' H' a e := by
  refine ⟨fun h1 => ((h.1 h1).kept hH).to (fun k _ => ?_), fun h1 h2 => ?_⟩
  · simp only [zFv, hK, hM]
  · rw [hH, h.2 h1 h2]
    simp only [zAv, hK, hM]
theorem zRel_upd {H' : Heap} {a : Nat} (hR : zRel D cA ad base q s H) (hA : zAdr ad base) (ha : 4 ≤ a) (hsh : q'.1 = q.1) (hz : H'.size = H.size) (ho : ∀ x, x ≠ ad a → H'[x]? = H[x]?)
    (hK : ∀ b k, b ≠ a → q'.2.1 b k = q.2.1 b k) (hM : ∀ b k, b ≠ a → q'.2.2 b k = q.2.2 b k) (hr : ∀ b k, zR (q'.2.2 b k)) (hcell : ∀ e, q.1[a]? = some e → zCell D cA ad q'.2.1 q'.2.2 H' a e) : zRel D cA ad base q' s H' := by
  obtain ⟨h1, h2, h3, h4, h5, -⟩ := hR
  refine ⟨by rw [hsh, hz]; exact h1, by rw [hsh]; exact h2, fun b e hb he => ?_, fun b n hb he => ?_, fun b e hb he => h5 b e hb (by rw [← hsh]; exact he), hr⟩
  · rw [hsh] at he
    by_cases hba : b = a
    · subst hba
      exact hcell e he
    · exact zCell_same (h3 b e hb he) (ho _ (hA.ne ha hba)) (fun k => hK b k hba) (fun k => hM b k hba)
  · rw [hsh] at he
    have hba : b ≠ a := by omega
    exact zX_kept (h4 b n hb he) (ho _ (hA.ne ha hba)) (fun j => by rw [hM b j hba])
theorem zs_kind {a C : Nat} (hR : zRel D cA ad base q s H) (h : q.1[a]?.map Prod.fst = some C) (hC : C < 11) : ∃ sz, 4 ≤ a ∧ q.1[a]? = some (C, sz) ∧ t_OB (ad a) (D.1 C) (zNF C) (D.2 C) H (fun k => zFv ad q.2.1 q.2.2 a C k) := by
  obtain ⟨e, he, h2⟩ := Option.map_eq_some_iff.mp h
  obtain ⟨C', sz⟩ := e
  cases h2
  have h4 : 4 ≤ a := by
    rcases Nat.lt_or_ge a 4 with q4 | q4
    · rcases hR.2.2.2.2.1 a _ q4 he with z | z
      · exact absurd z (by simp only; omega)
      · exact absurd z (by simp only; omega)
    · exact q4
  exact ⟨sz, h4, he, (hR.2.2.1 a _ h4 he).1 hC⟩
theorem zs_get0 {a C k t idx : Nat} {fin : Bool} {V : Nat → Value} {rest : List Value} (F : zFx p R s mid args meth c m d) (E : zEnv D cA ad base s) (hf : zFok m.1 (idx, C, k, t, fin)) (hob : t_OB (ad a) (D.1 C) (zNF C) (D.2 C) H V) (hdg : decode m.2.2.1 pc = .ok (.getfield idx, 3))
    (kk : W p l e R s mid args below meth c H locs cells slots Q (F0 mid (pc + 3) lsR (V k :: rest))) : W p l e R s mid args below meth c H locs cells slots Q (F0 mid pc lsR (.ref (ad a) :: rest)) := by
  obtain ⟨hl, hC, hk, -, -, hdecl⟩ := hf
  obtain ⟨hexec, hb, hml, hown, hts, -⟩ := F
  obtain ⟨cell, q1, q2, q3, q4⟩ := hob
  obtain ⟨hS, hfc, kC, hkC, hkind⟩ := E.2.1.1 C _ (zCls_at hC)
  obtain ⟨cf, kf, fi, f, hi, hsl⟩ := hS k hk
  refine W.getf hexec hb hown (hts _ hl) (by rw [← hdecl]; exact hi) (u_facts hfc hkC (u_lays hts (zi_c hC) hk) hi).1 q1 (by rw [q3]; exact fun h => by cases h) (v := V k) ?_ rfl rfl hdg kk
  rw [hsl, q4 k hk]
theorem zs_getF {idx : Nat} (F : zFx p R s mid args meth c m d) (E : zEnv D cA ad base s) (hdg : decode m.2.2.1 pc = .ok (.getfield idx, len)) (h : zGetF pc len (zFld m.1 idx) ls st q = some (.inl (pc', ls', st', q'))) (I : zIn D cA ad base s m ls st q H locs lsR)
    (kk : zGoal p l e R s mid args below meth c D cA ad base m cells slots Q q pc' ls' st' q') : W p l e R s mid args below meth c H locs cells slots Q (F0 mid pc lsR (st.map (zE ad))) := by
  unfold zGetF at h
  split at h
  · next a r C k t fin hf =>
    have hfo := zFld_ok hf
    split at h
    · next hsh =>
      obtain ⟨sz, h4, hq, hob⟩ := zs_kind I.1 hsh hfo.2.1
      have hk := List.forall_mem_cons.mp I.2.2.2.1
      have ht : zTy C k = t := hfo.2.2.2.1
      split at h
      · next t3 =>
        obtain ⟨h1, rfl, rfl, rfl, rfl⟩ := zNx_inv h
        simp only [Bool.and_eq_true, beq_iff_eq, decide_eq_true_eq] at h1
        obtain ⟨rfl, h0⟩ := h1
        refine zs_get0 F E hfo hob hdg ?_
        have := kk.same (I.stk (zOk_cons (v := rV (q.2.1 a k).toNat) trivial hk.2))
        simp only [zFv]
        rw [if_pos (ht.trans t3), zRf, if_neg (by omega)]
        exact this
      · next t3 =>
        split at h
        · next t2 =>
          obtain ⟨h1, rfl, rfl, rfl, rfl⟩ := zNx_inv h
          have h1 : len = 3 := by simpa using h1
          subst h1
          refine zs_get0 F E hfo hob hdg ?_
          have := kk.same (I.stk (zOk_cons (v := lV (zLg (q.2.2 a k) (q.2.2 a (k + 1000)))) trivial hk.2))
          simp only [zFv]
          rw [if_neg (by rw [ht]; exact t3), if_pos (ht.trans t2)]
          exact this
        · next t2 =>
          obtain ⟨h1, rfl, rfl, rfl, rfl⟩ := zNx_inv h
          have h1 : len = 3 := by simpa using h1
          subst h1
          refine zs_get0 F E hfo hob hdg ?_
          have := kk.same (I.stk (zOk_cons (v := iV (q.2.2 a k)) (I.1.2.2.2.2.2 a k) hk.2))
          simp only [zFv]
          rw [if_neg (by rw [ht]; exact t3), if_neg (by rw [ht]; exact t2)]
          exact this
    · cases h
  · cases h
theorem z_apart (F : zFx p R s mid args meth c m d) (E : zEnv D cA ad base s) {C : Nat} (hC : C < 11) : ∀ x y, x < zNF C → y < zNF C → x ≠ y → (D.2 C) x ≠ (D.2 C) y :=
  va_apart (own := "") F.2.2.2.2.1 (zi_c hC) (zTyF C) (zty_c hC) (znm_c hC) E.2.1 (zCls_at hC)
/-- a field is put that is not final -/
theorem zs_put0 {a C k t idx : Nat} {V : Nat → Value} {rest : List Value} {v : Value} (F : zFx p R s mid args meth c m d) (E : zEnv D cA ad base s) (hf : zFok m.1 (idx, C, k, t, false)) (hob : t_OB (ad a) (D.1 C) (zNF C) (D.2 C) H V)
    (hn : narrow (zTyF C k) v = v) (hfit : fits (zTyF C k) v = true) (hdg : decode m.2.2.1 pc = .ok (.putfield idx, 3)) (ha : 4 ≤ a) (hS0 : va_S (zA base) s.heap H locs)
    (kk : ∀ (H' : Heap) (locs' : List Loc), H'.size = H.size → (∀ x, x ≠ ad a → H'[x]? = H[x]?) → t_OB (ad a) (D.1 C) (zNF C) (D.2 C) H' (updV V k v) → va_S (zA base) s.heap H' locs' → W p l e R s mid args below meth c H' locs' cells slots Q (F0 mid (pc + 3) lsR rest)) : W p l e R s mid args below meth c H locs cells slots Q (F0 mid pc lsR (v :: .ref (ad a) :: rest)) := by
  have hf' := hf
  obtain ⟨hl, hC, hk, -, hfin, hdecl⟩ := hf'
  have hap := z_apart F E hC
  obtain ⟨hexec, hb, hml, hown, hts, -⟩ := F
  obtain ⟨cell, q1, q2, q3, q4⟩ := hob
  obtain ⟨hS, hfc, kC, hkC, hkind⟩ := E.2.1.1 C _ (zCls_at hC)
  obtain ⟨cf, kf, fi, f, hi, hsl⟩ := hS k hk
  have hlay := hts _ (zi_c hC _ (u_in_lay hk))
  unfold u_lay at hlay
  rw [if_neg (by rw [show (zTT C k).2.2.2 = false from hfin]; decide)] at hlay
  have hst := (u_facts hfc hkC (u_lays hts (zi_c hC) hk) hi).1
  have h6 := u_store hfc hkC hkind hlay hi (zty_c hC k hk) hn hfit
  refine W.putK hexec hb (f := f) ⟨hown, hts _ hl, ⟨_, _, _, by rw [← hdecl]; exact hi⟩, hst⟩ (by rw [q2]; exact h6) q1 q3 (by rw [hsl]; exact k2_hasslot (q4 k hk)) rfl rfl hdg fun H' e1 e2 e3 => ?_
  rw [hsl] at e1 ⊢
  exact kk H' _ e2 e3 ⟨_, e1, q2, q3, t_set q4 hap hk v⟩ (hS0.put e2 e3 (E.1.lt ha))
/-- a final field is put, in its class's constructor -/
theorem zs_putF0 {a C k t idx : Nat} {V : Nat → Value} {rest : List Value} {v : Value} (F : zFx p R s mid args meth c m d) (E : zEnv D cA ad base s) (hf : zFok m.1 (idx, C, k, t, true)) (hob : t_OB (ad a) (D.1 C) (zNF C) (D.2 C) H V)
    (hmC : m.1 = C) (hin : m.2.1.name = "<init>") (hn : narrow (zTyF C k) v = v) (hfit : fits (zTyF C k) v = true) (hdg : decode m.2.2.1 pc = .ok (.putfield idx, 3)) (ha : 4 ≤ a) (hS0 : va_S (zA base) s.heap H locs)
    (kk : ∀ (H' : Heap) (locs' : List Loc), H'.size = H.size → (∀ x, x ≠ ad a → H'[x]? = H[x]?) → t_OB (ad a) (D.1 C) (zNF C) (D.2 C) H' (updV V k v) → va_S (zA base) s.heap H' locs' → W p l e R s mid args below meth c H' locs' cells slots Q (F0 mid (pc + 3) lsR rest)) : W p l e R s mid args below meth c H locs cells slots Q (F0 mid pc lsR (v :: .ref (ad a) :: rest)) := by
  have hf' := hf
  obtain ⟨hl, hC, hk, -, hfin, hdecl⟩ := hf'
  have hap := z_apart F E hC
  obtain ⟨hexec, hb, hml, hown, hts, -, -, hinit, -⟩ := F
  obtain ⟨cell, q1, q2, q3, q4⟩ := hob
  obtain ⟨hS, hfc, kC, hkC, hkind⟩ := E.2.1.1 C _ (zCls_at hC)
  obtain ⟨cf, kf, fi, f, hi, hsl⟩ := hS k hk
  have hlay := hts _ (zi_c hC _ (u_in_lay hk))
  unfold u_lay at hlay
  rw [if_pos (show (zTT C k).2.2.2 = true from hfin)] at hlay
  have hst := (u_facts hfc hkC (u_lays hts (zi_c hC) hk) hi).1
  have hcf : mid.cls = cf := by
    obtain ⟨_, _, c', _, _, _, -, -, hf', -, -, -, hown2, -⟩ := Cond.laysFinal_spec hlay
    have e1 : c' = cf := by have := hi.symm.trans hf'; simp at this; exact this.1.symm
    rw [show (zTT C k).1 = zCn C from hdecl] at hown2
    rw [hmC] at hown
    rw [← e1]; exact Option.some.inj (hown.symm.trans hown2)
  have h6 := u_fits hfc hkC hkind (Or.inr hlay) hi (zty_c hC k hk) hn hfit
  refine W.putFinK hexec hb hown (hts _ hl) (by rw [← hdecl]; exact hi) hst hcf (hinit hin) (by rw [q2]; exact h6) q1 q3 (by rw [hsl]; exact k2_hasslot (q4 k hk)) rfl rfl hdg fun H' e1 e2 e3 => ?_
  rw [hsl] at e1 ⊢
  exact kk H' _ e2 e3 ⟨_, e1, q2, q3, t_set q4 hap hk v⟩ (hS0.put e2 e3 (E.1.lt ha))
theorem zTyF_0 {C k : Nat} (hC : C < 11) (hk : k < zNF C) (h : zTy C k = 0) : zTyF C k = .int := by
  have h1 := (zTk_c C hC k hk).1
  rw [h] at h1
  cases ht : zTyF C k <;> rw [ht] at h1 <;> first | rfl | cases h1
theorem zTyF_1 {C k : Nat} (hC : C < 11) (hk : k < zNF C) (h : zTy C k = 1) : zTyF C k = .boolean := by
  have h1 := (zTk_c C hC k hk).1
  rw [h] at h1
  cases ht : zTyF C k <;> rw [ht] at h1 <;> first | rfl | cases h1
theorem zTyF_2 {C k : Nat} (hC : C < 11) (hk : k < zNF C) (h : zTy C k = 2) : zTyF C k = .long := by
  have h1 := (zTk_c C hC k hk).1
  rw [h] at h1
  cases ht : zTyF C k <;> rw [ht] at h1 <;> first | rfl | cases h1
theorem zTyF_3 {C k : Nat} (hC : C < 11) (hk : k < zNF C) (h : zTy C k = 3) : (∃ n, zTyF C k = .object n) ∨ ∃ t, zTyF C k = .array t := by
  have h1 := (zTk_c C hC k hk).2 h
  cases ht : zTyF C k <;> rw [ht] at h1 <;> first | exact Or.inl ⟨_, rfl⟩ | exact Or.inr ⟨_, rfl⟩ | cases h1
theorem zNF_le {C : Nat} (hC : C < 11) : zNF C ≤ 32 := by
  rcases (show C = 0 ∨ C = 1 ∨ C = 2 ∨ C = 3 ∨ C = 4 ∨ C = 5 ∨ C = 6 ∨ C = 7 ∨ C = 8 ∨ C = 9 ∨ C = 10 by omega) with rfl | rfl | rfl | rfl | rfl | rfl | rfl | rfl | rfl | rfl | rfl <;> decide
theorem zs_putF {idx : Nat} (F : zFx p R s mid args meth c m d) (E : zEnv D cA ad base s) (hdg : decode m.2.2.1 pc = .ok (.putfield idx, len)) (h : zPutF m pc len (zFld m.1 idx) ls st q = some (.inl (pc', ls', st', q'))) (I : zIn D cA ad base s m ls st q H locs lsR)
    (kk : zGoal p l e R s mid args below meth c D cA ad base m cells slots Q q pc' ls' st' q') : W p l e R s mid args below meth c H locs cells slots Q (F0 mid pc lsR (st.map (zE ad))) := by
  unfold zPutF at h
  split at h
  · next x a r C k t fin hf =>
    have hfo := zFld_ok hf
    split at h
    · next hc0 =>
      obtain ⟨hsh, h4, htx, hfin⟩ := hc0
      subst hfin
      obtain ⟨sz, -, hq, hob⟩ := zs_kind I.1 hsh hfo.2.1
      obtain ⟨h1, rfl, rfl, rfl, rfl⟩ := zNx_inv h
      have h1 : len = 3 := by simpa using h1
      subst h1
      have hk := List.forall_mem_cons.mp I.2.2.2.1
      have hk2 := List.forall_mem_cons.mp hk.2
      have ht : zTy C k = t := hfo.2.2.2.1
      have hkN : k < zNF C := hfo.2.2.1
      have hN : zNF C ≤ 32 := zNF_le hfo.2.1
      have hkN32 : k < 32 := Nat.lt_of_lt_of_le hfo.2.2.1 hN
      have hnf : narrow (zTyF C k) (.int (Int32.ofInt x)) = .int (Int32.ofInt x) ∧ fits (zTyF C k) (.int (Int32.ofInt x)) = true := by
        rcases htx with t0 | ⟨t1, hx⟩
        · rw [zTyF_0 hfo.2.1 hkN (ht.trans t0)]; exact ⟨rfl, rfl⟩
        · rw [zTyF_1 hfo.2.1 hkN (ht.trans t1)]
          rcases hx with rfl | rfl <;> exact ⟨by decide +kernel, by decide +kernel⟩
      refine zs_put0 F E hfo hob hnf.1 hnf.2 hdg h4 I.2.2.2.2 fun H' locs' e2 e3 e4 e5 => ?_
      have h9 := kk H' locs' lsR ⟨zRel_upd (q' := (q.1, q.2.1, zU q.2.2 a k x)) I.1 E.1 h4 rfl e2 e3 (fun _ _ _ => rfl) (fun b j hb => zU_na hb) (zR_zU I.1.2.2.2.2.2 hk.1) (fun e9 he9 => by
        rw [hq] at he9
        cases he9
        refine ⟨fun _ => e4.to (fun j hj => ?_), fun z => absurd z (by have := hfo.2.1; simp only at this ⊢; omega)⟩
        by_cases hjk : j = k
        · subst hjk
          simp only [updV, zFv]
          rw [if_pos trivial, if_neg (by rw [ht]; rcases htx with t0 | t1 <;> omega), if_neg (by rw [ht]; rcases htx with t0 | t1 <;> omega), zU_eq]
          rfl
        · simp only [updV, zFv]
          rw [if_neg hjk, zU_nk hjk, zU_nk (show j + 1000 ≠ k by omega)]), I.2.1, I.2.2.1, hk2.2, e5⟩
      rw [Nat.sub_self, show zSz (q.1, q.2.1, zU q.2.2 a k x) - zSz q = 0 from Nat.sub_self _, Nat.add_zero, Nat.add_zero] at h9
      exact h9
    · cases h
  · next x a r C k t fin hf =>
    have hfo := zFld_ok hf
    split at h
    · next hc0 =>
      obtain ⟨hsh, h4, htx, hfin⟩ := hc0
      subst hfin
      obtain ⟨sz, -, hq, hob⟩ := zs_kind I.1 hsh hfo.2.1
      obtain ⟨h1, rfl, rfl, rfl, rfl⟩ := zNx_inv h
      have h1 : len = 3 := by simpa using h1
      subst h1
      have hk := List.forall_mem_cons.mp I.2.2.2.1
      have hk2 := List.forall_mem_cons.mp hk.2
      have ht : zTy C k = t := hfo.2.2.2.1
      have hkN : k < zNF C := hfo.2.2.1
      have hN : zNF C ≤ 32 := zNF_le hfo.2.1
      have hkN32 : k < 32 := Nat.lt_of_lt_of_le hfo.2.2.1 hN
      have hnf : narrow (zTyF C k) (.long x) = .long x ∧ fits (zTyF C k) (.long x) = true := by
        rw [zTyF_2 hfo.2.1 hkN (ht.trans htx)]; exact ⟨rfl, rfl⟩
      refine zs_put0 F E hfo hob hnf.1 hnf.2 hdg h4 I.2.2.2.2 fun H' locs' e2 e3 e4 e5 => ?_
      have h9 := kk H' locs' lsR ⟨zRel_upd (q' := (q.1, q.2.1, zU (zU q.2.2 a k (zHi x)) a (k + 1000) (zLo x))) I.1 E.1 h4 rfl e2 e3 (fun _ _ _ => rfl) (fun b j hb => (zU_na hb).trans (zU_na hb)) (zR_zU (zR_zU I.1.2.2.2.2.2 (zR_hi x)) (zR_lo x)) (fun e9 he9 => by
        rw [hq] at he9
        cases he9
        refine ⟨fun _ => e4.to (fun j hj => ?_), fun z => absurd z (by have := hfo.2.1; simp only at this ⊢; omega)⟩
        by_cases hjk : j = k
        · subst hjk
          simp only [updV, zFv]
          rw [if_pos trivial, if_neg (by rw [ht]; omega), if_pos (ht.trans htx), zU_eq, zU_nk (show j ≠ j + 1000 by omega), zU_eq, z_lg]
          rfl
        · simp only [updV, zFv]
          rw [if_neg hjk, zU_nk (show j ≠ k + 1000 by have : j < zNF C := hj; omega), zU_nk hjk, zU_nk (show j + 1000 ≠ k + 1000 by omega), zU_nk (show j + 1000 ≠ k by omega)]), I.2.1, I.2.2.1, hk2.2, e5⟩
      rw [Nat.sub_self, show zSz (q.1, q.2.1, zU (zU q.2.2 a k (zHi x)) a (k + 1000) (zLo x)) - zSz q = 0 from Nat.sub_self _, Nat.add_zero, Nat.add_zero] at h9
      exact h9
    · cases h
  · next v a r C k t fin hf =>
    have hfo := zFld_ok hf
    split at h
    · next hc0 =>
      obtain ⟨hsh, h4, htx, hfin, hmC, hin⟩ := hc0
      subst hfin
      obtain ⟨sz, -, hq, hob⟩ := zs_kind I.1 hsh hfo.2.1
      obtain ⟨h1, rfl, rfl, rfl, rfl⟩ := zNx_inv h
      have h1 : len = 3 := by simpa using h1
      subst h1
      have hk := List.forall_mem_cons.mp I.2.2.2.1
      have hk2 := List.forall_mem_cons.mp hk.2
      have ht : zTy C k = t := hfo.2.2.2.1
      have hkN : k < zNF C := hfo.2.2.1
      have hnf : narrow (zTyF C k) (.ref (ad v)) = .ref (ad v) ∧ fits (zTyF C k) (.ref (ad v)) = true := by
        rcases zTyF_3 hfo.2.1 hkN (ht.trans htx) with ⟨n, e9⟩ | ⟨n, e9⟩ <;> (rw [e9]; exact ⟨rfl, rfl⟩)
      refine zs_putF0 F E hfo hob hmC hin hnf.1 hnf.2 hdg h4 I.2.2.2.2 fun H' locs' e2 e3 e4 e5 => ?_
      have h9 := kk H' locs' lsR ⟨zRel_upd (q' := (q.1, zU q.2.1 a k v, q.2.2)) I.1 E.1 h4 rfl e2 e3 (fun b j hb => zU_na hb) (fun _ _ _ => rfl) I.1.2.2.2.2.2 (fun e9 he9 => by
        rw [hq] at he9
        cases he9
        refine ⟨fun _ => e4.to (fun j hj => ?_), fun z => absurd z (by have := hfo.2.1; simp only at this ⊢; omega)⟩
        by_cases hjk : j = k
        · subst hjk
          simp only [updV, zFv]
          rw [if_pos trivial, if_pos (ht.trans htx), zU_eq, zRf, if_neg (by omega)]
          rfl
        · simp only [updV, zFv]
          rw [if_neg hjk, zU_nk hjk]), I.2.1, I.2.2.1, hk2.2, e5⟩
      rw [Nat.sub_self, show zSz (q.1, zU q.2.1 a k v, q.2.2) - zSz q = 0 from Nat.sub_self _, Nat.add_zero, Nat.add_zero] at h9
      exact h9
    · cases h
  · cases h
end ZH
end
section
/-! arrays -/
section ZA
variable {p : Program} {l : Launch} {e : Env} {R : Room} {s : State} {mid : MethodId} {args : Array Value} {below : List Frame} {meth : Method} {c : Code} {H : Heap} {locs : List Loc} {cells slots : Nat} {Q : State → Prop} {D : va_G} {cA : Nat → ClassId} {ad : Nat → Nat} {base : Nat}
variable {m : zD} {d pc pc' len : Nat} {ls ls' st st' : List zV} {q q' : zS} {lsR : Array Slot}
theorem z_ofNat {n : Nat} (h : n < 100000) : n.toInt32 = Int32.ofInt (n : Int) := by
  rw [← Int32.toInt_inj, z_of (zR_nat h)]
  exact nI_toInt (by omega)
theorem zs_arr {a k n : Nat} (hR : zRel D cA ad base q s H) (h : q.1[a]? = some (k, n)) (hk : 21 ≤ k ∧ k ≤ 24 ∨ k = 20 ∧ 4 ≤ a) : 4 ≤ a ∧ H[ad a]? = some (arrV (cA k) n (fun j => zAv ad q.2.1 q.2.2 a k j)) := by
  have h4 : 4 ≤ a := by
    rcases hk with hk | hk
    · rcases Nat.lt_or_ge a 4 with q4 | q4
      · rcases hR.2.2.2.2.1 a _ q4 h with z | z
        · exact absurd z (by simp only; omega)
        · exact absurd z (by simp only; omega)
      · exact q4
    · exact hk.2
  exact ⟨h4, (hR.2.2.1 a _ h4 h).2 (by simp only; omega) (by simp only; omega)⟩
theorem zs_iald (F : zFx p R s mid args meth c m d) (E : zEnv D cA ad base s) (hdg : decode m.2.2.1 pc = .ok (.iaload, len)) (h : zALd pc len 20 ls st q = some (.inl (pc', ls', st', q'))) (I : zIn D cA ad base s m ls st q H locs lsR)
    (kk : zGoal p l e R s mid args below meth c D cA ad base m cells slots Q q pc' ls' st' q') : W p l e R s mid args below meth c H locs cells slots Q (F0 mid pc lsR (st.map (zE ad))) := by
  unfold zALd at h
  split at h
  · next i a r =>
    split at h
    · next k n hq =>
      split at h
      · next hc =>
        obtain ⟨rfl, h0, hn⟩ := hc
        obtain ⟨h1, rfl, rfl, rfl, rfl⟩ := zNx_inv h
        have h1 : len = 1 := by simpa using h1
        subst h1
        have hk := List.forall_mem_cons.mp I.2.2.2.1
        have hk2 := List.forall_mem_cons.mp hk.2
        have hi : zR i := hk.1
        have K0 := kk.same (I.stk (zOk_cons (v := iV (q.2.2 a i.toNat)) (I.1.2.2.2.2.2 a i.toNat) hk2.2))
        have hin : i.toNat < n := by omega
        rcases Nat.lt_or_ge a 4 with h4 | h4
        · obtain ⟨scr, g1, g2, g3, g4, -, g5⟩ := I.1.2.2.2.1 a n h4 hq
          exact W.iald (v := .int (Int32.ofInt (q.2.2 a i.toNat))) F.1 F.2.1 g1 g2 g3 (z_in hi h0 (by omega)) (by rw [z_cl hi]; exact g5 _ hin) rfl rfl hdg K0
        · obtain ⟨-, hH⟩ := zs_arr I.1 hq (Or.inr ⟨rfl, h4⟩)
          exact W.iald (v := .int (Int32.ofInt (q.2.2 a i.toNat))) F.1 F.2.1 hH ((E.2.1.2 0 _ rfl).1 _ _) (fun e9 => by cases e9) (by rw [arrV_size]; exact z_in hi h0 hn) (by rw [z_cl hi, arrV_read _ _ hin]; rfl) rfl rfl hdg K0
      · cases h
    · cases h
  · cases h
theorem zs_bald (F : zFx p R s mid args meth c m d) (E : zEnv D cA ad base s) (hdg : decode m.2.2.1 pc = .ok (.baload, len)) (h : zALd pc len 21 ls st q = some (.inl (pc', ls', st', q'))) (I : zIn D cA ad base s m ls st q H locs lsR)
    (kk : zGoal p l e R s mid args below meth c D cA ad base m cells slots Q q pc' ls' st' q') : W p l e R s mid args below meth c H locs cells slots Q (F0 mid pc lsR (st.map (zE ad))) := by
  unfold zALd at h
  split at h
  · next i a r =>
    split at h
    · next k n hq =>
      split at h
      · next hc =>
        obtain ⟨rfl, h0, hn⟩ := hc
        obtain ⟨h1, rfl, rfl, rfl, rfl⟩ := zNx_inv h
        have h1 : len = 1 := by simpa using h1
        subst h1
        have hk := List.forall_mem_cons.mp I.2.2.2.1
        have hk2 := List.forall_mem_cons.mp hk.2
        have hi : zR i := hk.1
        have K0 := kk.same (I.stk (zOk_cons (v := iV (q.2.2 a i.toNat)) (I.1.2.2.2.2.2 a i.toNat) hk2.2))
        have hin : i.toNat < n := by omega
        obtain ⟨-, hH⟩ := zs_arr I.1 hq (Or.inl ⟨by omega, by omega⟩)
        exact W.zald (v := .int (Int32.ofInt (q.2.2 a i.toNat))) F.1 F.2.1 hH ((E.2.1.2 1 _ rfl).1 _ _) (fun e9 => by cases e9) (by rw [arrV_size]; exact z_in hi h0 hn) (by rw [z_cl hi, arrV_read _ _ hin]; rfl) rfl rfl hdg K0
      · cases h
    · cases h
  · cases h
theorem zs_aald (F : zFx p R s mid args meth c m d) (E : zEnv D cA ad base s) (hdg : decode m.2.2.1 pc = .ok (.aaload, len)) (h : zRLd pc len ls st q = some (.inl (pc', ls', st', q'))) (I : zIn D cA ad base s m ls st q H locs lsR)
    (kk : zGoal p l e R s mid args below meth c D cA ad base m cells slots Q q pc' ls' st' q') : W p l e R s mid args below meth c H locs cells slots Q (F0 mid pc lsR (st.map (zE ad))) := by
  unfold zRLd at h
  split at h
  · next i a r =>
    split at h
    · next k n hq =>
      split at h
      · next hc =>
        obtain ⟨hkd, h0, hn, hp⟩ := hc
        obtain ⟨h1, rfl, rfl, rfl, rfl⟩ := zNx_inv h
        have h1 : len = 1 := by simpa using h1
        subst h1
        have hk := List.forall_mem_cons.mp I.2.2.2.1
        have hk2 := List.forall_mem_cons.mp hk.2
        have hi : zR i := hk.1
        have K0 := kk.same (I.stk (zOk_cons (v := rV (q.2.1 a i.toNat).toNat) trivial hk2.2))
        have hin : i.toNat < n := by omega
        obtain ⟨-, hH⟩ := zs_arr I.1 hq (Or.inl ⟨by omega, by omega⟩)
        have hv : zAv ad q.2.1 q.2.2 a k i.toNat = .ref (ad (q.2.1 a i.toNat).toNat) := by
          unfold zAv zRf
          rw [if_neg (by omega), if_neg (by omega)]
        rcases hkd with rfl | rfl | rfl
        · exact W.aald (ty := .object "StopPress$Text") (v := .ref (ad (q.2.1 a i.toNat).toNat)) F.1 F.2.1 hH ((E.2.1.2 2 _ rfl).1 _ _) rfl (fun e9 => by cases e9) (by rw [arrV_size]; exact z_in hi h0 hn) (by rw [z_cl hi, arrV_read _ _ hin, hv]) rfl rfl hdg K0
        · exact W.aald (ty := .object "StopPress$Alignment") (v := .ref (ad (q.2.1 a i.toNat).toNat)) F.1 F.2.1 hH ((E.2.1.2 3 _ rfl).1 _ _) rfl (fun e9 => by cases e9) (by rw [arrV_size]; exact z_in hi h0 hn) (by rw [z_cl hi, arrV_read _ _ hin, hv]) rfl rfl hdg K0
        · exact W.aald (ty := .array .int) (v := .ref (ad (q.2.1 a i.toNat).toNat)) F.1 F.2.1 hH ((E.2.1.2 4 _ rfl).1 _ _) rfl (fun e9 => by cases e9) (by rw [arrV_size]; exact z_in hi h0 hn) (by rw [z_cl hi, arrV_read _ _ hin, hv]) rfl rfl hdg K0
      · cases h
    · cases h
  · cases h
theorem zs_alen (F : zFx p R s mid args meth c m d) (E : zEnv D cA ad base s) (hdg : decode m.2.2.1 pc = .ok (.arraylength, len)) (h : zALen pc len ls st q = some (.inl (pc', ls', st', q'))) (I : zIn D cA ad base s m ls st q H locs lsR)
    (kk : zGoal p l e R s mid args below meth c D cA ad base m cells slots Q q pc' ls' st' q') : W p l e R s mid args below meth c H locs cells slots Q (F0 mid pc lsR (st.map (zE ad))) := by
  unfold zALen at h
  split at h
  · next a r =>
    split at h
    · next k n hq =>
      split at h
      · next hc =>
        obtain ⟨hkd, hn⟩ := hc
        obtain ⟨h1, rfl, rfl, rfl, rfl⟩ := zNx_inv h
        have h1 : len = 1 := by simpa using h1
        subst h1
        have hk := List.forall_mem_cons.mp I.2.2.2.1
        have K0 := kk.same (I.stk (zOk_cons (v := iV n) (zR_nat hn) hk.2))
        rcases Nat.lt_or_ge a 4 with h4 | h4
        · have hk20 : k = 20 := by rcases I.1.2.2.2.2.1 a _ h4 hq with z | z <;> simp only at z <;> omega
          subst hk20
          obtain ⟨scr, g1, g2, g3, g4, g6, g5⟩ := I.1.2.2.2.1 a n h4 hq
          exact W.alen (n := Int32.ofInt n) F.1 F.2.1 g1 g2 (g6.trans (z_ofNat hn)) rfl rfl hdg K0
        · obtain ⟨-, hH⟩ := zs_arr I.1 hq (by omega)
          have hs : ∀ f : Nat → Value, (arrV (cA k) n f).slots.size.toInt32 = Int32.ofInt n := fun f => by rw [arrV_size]; exact z_ofNat hn
          rcases hkd with rfl | rfl | rfl | rfl | rfl
          · exact W.alen (n := Int32.ofInt n) F.1 F.2.1 hH ((E.2.1.2 0 _ rfl).1 _ _) (hs _) rfl rfl hdg K0
          · exact W.alen (n := Int32.ofInt n) F.1 F.2.1 hH ((E.2.1.2 1 _ rfl).1 _ _) (hs _) rfl rfl hdg K0
          · exact W.alen (n := Int32.ofInt n) F.1 F.2.1 hH ((E.2.1.2 2 _ rfl).1 _ _) (hs _) rfl rfl hdg K0
          · exact W.alen (n := Int32.ofInt n) F.1 F.2.1 hH ((E.2.1.2 3 _ rfl).1 _ _) (hs _) rfl rfl hdg K0
          · exact W.alen (n := Int32.ofInt n) F.1 F.2.1 hH ((E.2.1.2 4 _ rfl).1 _ _) (hs _) rfl rfl hdg K0
      · cases h
    · cases h
  · cases h
/-- an array of numbers is written -/
theorem zRel_ast {H' : Heap} {a k n i : Nat} {x : Int} (hR : zRel D cA ad base q s H) (hA : zAdr ad base) (h4 : 4 ≤ a) (hq : q.1[a]? = some (k, n)) (hkk : k = 20 ∨ k = 21) (hx : zR x) (hz : H'.size = H.size) (ho : ∀ y, y ≠ ad a → H'[y]? = H[y]?)
    (hH : H'[ad a]? = some (arrV (cA k) n (updV (fun j => zAv ad q.2.1 q.2.2 a k j) i (.int (Int32.ofInt x))))) : zRel D cA ad base (q.1, q.2.1, zU q.2.2 a i x) s H' := by
  refine zRel_upd (q' := (q.1, q.2.1, zU q.2.2 a i x)) hR hA h4 rfl hz ho (fun _ _ _ => rfl) (fun b j hb => zU_na hb) (zR_zU hR.2.2.2.2.2 hx) (fun e9 he9 => ?_)
  rw [hq] at he9
  cases he9
  refine ⟨fun z => absurd z (by simp only; omega), fun _ _ => ?_⟩
  rw [hH]
  congr 2
  funext j
  simp only [updV, zAv, if_pos hkk]
  by_cases hj : j = i
  · rw [if_pos hj, hj, zU_eq]
  · rw [if_neg hj, zU_nk hj]
theorem zs_iast (F : zFx p R s mid args meth c m d) (E : zEnv D cA ad base s) (hdg : decode m.2.2.1 pc = .ok (.iastore, len)) (h : zASt pc len 20 ls st q = some (.inl (pc', ls', st', q'))) (I : zIn D cA ad base s m ls st q H locs lsR)
    (kk : zGoal p l e R s mid args below meth c D cA ad base m cells slots Q q pc' ls' st' q') : W p l e R s mid args below meth c H locs cells slots Q (F0 mid pc lsR (st.map (zE ad))) := by
  unfold zASt at h
  split at h
  · next x i a r =>
    split at h
    · next k n hq =>
      split at h
      · next hc =>
        obtain ⟨rfl, h4, h0, hn, -⟩ := hc
        obtain ⟨h1, rfl, rfl, rfl, rfl⟩ := zNx_inv h
        have h1 : len = 1 := by simpa using h1
        subst h1
        have hk := List.forall_mem_cons.mp I.2.2.2.1
        have hk2 := List.forall_mem_cons.mp hk.2
        have hk3 := List.forall_mem_cons.mp hk2.2
        have hi : zR i := hk2.1
        obtain ⟨-, hH⟩ := zs_arr I.1 hq (Or.inr ⟨rfl, h4⟩)
        refine W.iast F.1 F.2.1 hH ((E.2.1.2 0 _ rfl).1 _ _) (fun e9 => by cases e9) (by rw [arrV_size]; exact z_in hi h0 hn) rfl rfl hdg fun H' e1 e2 e3 => ?_
        rw [arrV_store, z_cl hi] at e1
        have h9 := kk H' (locs ++ [⟨ad a, (Int32.ofInt i).toNatClampNeg⟩]) lsR ⟨zRel_ast I.1 E.1 h4 hq (Or.inl rfl) hk.1 e2 e3 e1, I.2.1, I.2.2.1, hk3.2, I.2.2.2.2.put e2 e3 (E.1.lt h4)⟩
        rw [Nat.sub_self, show zSz (q.1, q.2.1, zU q.2.2 a i.toNat x) - zSz q = 0 from Nat.sub_self _, Nat.add_zero, Nat.add_zero] at h9
        exact h9
      · cases h
    · cases h
  · cases h
theorem zs_bast (F : zFx p R s mid args meth c m d) (E : zEnv D cA ad base s) (hdg : decode m.2.2.1 pc = .ok (.bastore, len)) (h : zASt pc len 21 ls st q = some (.inl (pc', ls', st', q'))) (I : zIn D cA ad base s m ls st q H locs lsR)
    (kk : zGoal p l e R s mid args below meth c D cA ad base m cells slots Q q pc' ls' st' q') : W p l e R s mid args below meth c H locs cells slots Q (F0 mid pc lsR (st.map (zE ad))) := by
  unfold zASt at h
  split at h
  · next x i a r =>
    split at h
    · next k n hq =>
      split at h
      · next hc =>
        obtain ⟨rfl, h4, h0, hn, hx⟩ := hc
        obtain ⟨h1, rfl, rfl, rfl, rfl⟩ := zNx_inv h
        have h1 : len = 1 := by simpa using h1
        subst h1
        have hk := List.forall_mem_cons.mp I.2.2.2.1
        have hk2 := List.forall_mem_cons.mp hk.2
        have hk3 := List.forall_mem_cons.mp hk2.2
        have hi : zR i := hk2.1
        obtain ⟨-, hH⟩ := zs_arr I.1 hq (Or.inl ⟨by omega, by omega⟩)
        refine W.zast F.1 F.2.1 hH ((E.2.1.2 1 _ rfl).1 _ _) (fun e9 => by cases e9) (by rw [arrV_size]; exact z_in hi h0 hn) rfl rfl hdg fun H' e1 e2 e3 => ?_
        have hnx : narrow .boolean (.int (Int32.ofInt x)) = .int (Int32.ofInt x) := by
          rcases hx with z | rfl | rfl
          · exact absurd z (by omega)
          · decide +kernel
          · decide +kernel
        rw [hnx, arrV_store, z_cl hi] at e1
        have h9 := kk H' (locs ++ [⟨ad a, (Int32.ofInt i).toNatClampNeg⟩]) lsR ⟨zRel_ast I.1 E.1 h4 hq (Or.inr rfl) hk.1 e2 e3 e1, I.2.1, I.2.2.1, hk3.2, I.2.2.2.2.put e2 e3 (E.1.lt h4)⟩
        rw [Nat.sub_self, show zSz (q.1, q.2.1, zU q.2.2 a i.toNat x) - zSz q = 0 from Nat.sub_self _, Nat.add_zero, Nat.add_zero] at h9
        exact h9
      · cases h
    · cases h
  · cases h
/-- a reference is put into an array of references -/
theorem zs_aast0 {i : Int} {a v k n C t0 : Nat} {rest : List zV} (F : zFx p R s mid args meth c m d) (E : zEnv D cA ad base s) (hdg : decode m.2.2.1 pc = .ok (.aastore, 1)) (hC : C < 11) (ht : (zTys cA)[t0]? = some (cA k, .object (zCn C))) (hkk : k = 22 ∨ k = 23) (hq : q.1[a]? = some (k, n)) (hqv : q.1[v]?.map Prod.fst = some C) (h4 : 4 ≤ a) (h0 : 0 ≤ i) (hn : i < n) (hi : zR i)
    (I : zIn D cA ad base s m ls (rV v :: iV i :: rV a :: rest) q H locs lsR) (kk : zGoal p l e R s mid args below meth c D cA ad base m cells slots Q q (pc + 1) ls rest (q.1, zU q.2.1 a i.toNat v, q.2.2)) : W p l e R s mid args below meth c H locs cells slots Q (F0 mid pc lsR (.ref (ad v) :: .int (Int32.ofInt i) :: .ref (ad a) :: rest.map (zE ad))) := by
  obtain ⟨-, hH⟩ := zs_arr I.1 hq (Or.inl ⟨by omega, by omega⟩)
  obtain ⟨sz, -, -, cellV, g1, g2, g3, -⟩ := zs_kind I.1 hqv hC
  have hcls := (E.2.1.1 C _ (zCls_at hC)).2
  obtain ⟨kA, comp, k1, k2, k3, -⟩ := (E.2.1.2 t0 _ ht).2
  have hcomp : comp = D.1 C := Option.some.inj (k3.symm.trans hcls.1)
  subst hcomp
  have hcls' := hcls
  obtain ⟨-, kC, hkC, -⟩ := hcls
  have hk := List.forall_mem_cons.mp I.2.2.2.1
  have hk2 := List.forall_mem_cons.mp hk.2
  have hk3 := List.forall_mem_cons.mp hk2.2
  refine W.aast F.1 F.2.1 hH (fun q h => by cases h) (fun h => by cases h) k1 k2 rfl hkC ⟨by rw [z_lt0 hi]; omega, by rw [arrV_size, z_cl hi]; omega⟩ g1 (fun q h => by rw [g3] at h; cases h) (by rw [g2]; exact hkC) (by rw [g2]; exact va_assign hcls') rfl rfl hdg fun H' e1 e2 e3 => ?_
  rw [arrV_store, z_cl hi] at e1
  have hRel : zRel D cA ad base (q.1, zU q.2.1 a i.toNat v, q.2.2) s H' := by
    refine zRel_upd (q' := (q.1, zU q.2.1 a i.toNat v, q.2.2)) I.1 E.1 h4 rfl e2 e3 (fun b j hb => zU_na hb) (fun _ _ _ => rfl) I.1.2.2.2.2.2 (fun e9 he9 => ?_)
    rw [hq] at he9
    cases he9
    refine ⟨fun z => absurd z (by simp only; omega), fun _ _ => ?_⟩
    rw [e1]
    congr 2
    funext j
    have hk' : ¬ (k = 20 ∨ k = 21) := by omega
    simp only [updV, zAv, if_neg hk']
    by_cases hj : j = i.toNat
    · rw [if_pos hj, hj, zU_eq, zRf, if_neg (by omega)]
      rfl
    · rw [if_neg hj, zU_nk hj]
  have h9 := kk H' (locs ++ [⟨ad a, (Int32.ofInt i).toNatClampNeg⟩]) lsR ⟨hRel, I.2.1, I.2.2.1, hk3.2, I.2.2.2.2.put e2 e3 (E.1.lt h4)⟩
  rw [Nat.sub_self, show zSz (q.1, zU q.2.1 a i.toNat v, q.2.2) - zSz q = 0 from Nat.sub_self _, Nat.add_zero, Nat.add_zero] at h9
  exact h9
theorem zs_aast (F : zFx p R s mid args meth c m d) (E : zEnv D cA ad base s) (hdg : decode m.2.2.1 pc = .ok (.aastore, len)) (h : zRSt pc len ls st q = some (.inl (pc', ls', st', q'))) (I : zIn D cA ad base s m ls st q H locs lsR)
    (kk : zGoal p l e R s mid args below meth c D cA ad base m cells slots Q q pc' ls' st' q') : W p l e R s mid args below meth c H locs cells slots Q (F0 mid pc lsR (st.map (zE ad))) := by
  unfold zRSt at h
  split at h
  · next v i a r =>
    split at h
    · next k n hq =>
      split at h
      · next hc =>
        obtain ⟨hkv, h4, h0, hn⟩ := hc
        obtain ⟨h1, rfl, rfl, rfl, rfl⟩ := zNx_inv h
        have h1 : len = 1 := by simpa using h1
        subst h1
        have hk := List.forall_mem_cons.mp I.2.2.2.1
        have hk2 := List.forall_mem_cons.mp hk.2
        rcases hkv with ⟨rfl, hv⟩ | ⟨rfl, hv⟩
        · exact zs_aast0 (C := 8) (t0 := 2) F E hdg (by decide) rfl (Or.inl rfl) hq hv h4 h0 hn hk2.1 I kk
        · exact zs_aast0 (C := 1) (t0 := 3) F E hdg (by decide) rfl (Or.inr rfl) hq hv h4 h0 hn hk2.1 I kk
      · cases h
    · cases h
  · cases h
theorem zs_getS {idx a : Nat} (F : zFx p R s mid args meth c m d) (E : zEnv D cA ad base s) (hdg : decode m.2.2.1 pc = .ok (.getstatic idx, 3)) (h : zStat m.1 idx = some a) (I : zIn D cA ad base s m ls st q H locs lsR)
    (kk : zGoal p l e R s mid args below meth c D cA ad base m cells slots Q q (pc + 3) ls (rV a :: st) q) : W p l e R s mid args below meth c H locs cells slots Q (F0 mid pc lsR (st.map (zE ad))) := by
  obtain ⟨h1, h2⟩ := zStat_ok h
  have K0 := kk.same (I.stk (zOk_cons (v := rV a) trivial I.2.2.2.1))
  exact va_getsN F.1 F.2.1 (E.2.2.2.2.2.2.1 a h2) I.2.2.2.2 F.2.2.2.1 (va_Nw.use rfl (E.2.2.1 _ h1)) (fun x hx => hx) hdg K0
end ZA
end
section
/-! cells that are made -/
section ZN
variable {p : Program} {l : Launch} {e : Env} {R : Room} {s : State} {mid : MethodId} {args : Array Value} {below : List Frame} {meth : Method} {c : Code} {H : Heap} {locs : List Loc} {cells slots : Nat} {Q : State → Prop} {D : va_G} {cA : Nat → ClassId} {ad : Nat → Nat} {base : Nat}
variable {m : zD} {d pc pc' len : Nat} {ls ls' st st' : List zV} {q q' : zS} {lsR : Array Slot}
theorem zZ_in {M : zM} {n a b j : Nat} {v : Int} (h : a ≤ b ∧ b < a + n) : zZ M n a v b j = v := if_pos h
theorem zZ_out {M : zM} {n a b j : Nat} {v : Int} (h : b < a) : zZ M n a v b j = M b j := if_neg (by omega)
theorem zPush_len (q : zS) (n kd sz : Nat) : (zPush q n kd sz).1.length - q.1.length = n := by
  simp [zPush]
theorem zPush_sz (q : zS) (n kd sz : Nat) : zSz (zPush q n kd sz) - zSz q = n * sz := by
  simp [zPush, zSz]
theorem zR_zZ {M : zM} {n a : Nat} (h : ∀ b j, zR (M b j)) : ∀ b j, zR (zZ M n a 0 b j) := by
  intro b j
  unfold zZ
  split
  · exact zR_0
  · exact h b j
theorem zRel_ad (hR : zRel D cA ad base q s H) (hA : zAdr ad base) : ad q.1.length = H.size := by
  rw [hA.1 _ hR.2.1]
  have := hR.1
  have := hR.2.1
  omega
theorem zRel_ext {t : List (Nat × Nat)} {K' M' : zM} {H' : Heap} (hR : zRel D cA ad base q s H) (hA : zAdr ad base) (hz : H'.size = H.size + t.length) (ho : ∀ x, x < H.size → H'[x]? = H[x]?)
    (hK : ∀ a k, a < q.1.length → K' a k = q.2.1 a k) (hM : ∀ a k, a < q.1.length → M' a k = q.2.2 a k) (hr : ∀ a k, zR (M' a k)) (hcell : ∀ (i : Nat) (e : Nat × Nat), t[i]? = some e → zCell D cA ad K' M' H' (q.1.length + i) e) : zRel D cA ad base (q.1 ++ t, K', M') s H' := by
  obtain ⟨h1, h2, h3, h4, h5, -⟩ := hR
  have had : ∀ a, a < q.1.length → ad a < H.size := fun a ha => by
    by_cases h4 : 4 ≤ a
    · rw [hA.1 a h4]; omega
    · have := hA.2 a (by omega); omega
  refine ⟨by simp only [List.length_append]; omega, by simp only [List.length_append]; omega, fun a e ha he => ?_, fun a n ha he => ?_, fun a e ha he => ?_, hr⟩
  · by_cases hl : a < q.1.length
    · rw [List.getElem?_append_left hl] at he
      exact zCell_same (h3 a e ha he) (ho _ (had a hl)) (fun k => hK a k hl) (fun k => hM a k hl)
    · rw [List.getElem?_append_right (by omega)] at he
      have := hcell _ _ he
      rw [show q.1.length + (a - q.1.length) = a by omega] at this
      exact this
  · have hl : a < q.1.length := by omega
    rw [List.getElem?_append_left hl] at he
    exact zX_kept (h4 a n ha he) (ho _ (had a hl)) (fun j => by show _ = Int32.ofInt (M' a j); rw [hM a j hl])
  · have hl : a < q.1.length := by omega
    rw [List.getElem?_append_left hl] at he
    exact h5 a e ha he
theorem zRel_push1 {kd sz : Nat} {H' : Heap} (hR : zRel D cA ad base q s H) (hA : zAdr ad base) (hz : H'.size = H.size + 1) (ho : ∀ x, x < H.size → H'[x]? = H[x]?) (hcell : zCell D cA ad (zZ q.2.1 1 q.1.length (-1)) (zZ q.2.2 1 q.1.length 0) H' q.1.length (kd, sz)) : zRel D cA ad base (zPush q 1 kd sz) s H' := by
  refine zRel_ext (t := [(kd, sz)]) hR hA hz ho (fun a k ha => zZ_out ha) (fun a k ha => zZ_out ha) (zR_zZ hR.2.2.2.2.2) (fun i e he => ?_)
  have h0 : i < 1 := (List.getElem?_eq_some_iff.mp he).1
  rw [show i = 0 by omega] at he ⊢
  cases he
  exact hcell
theorem va_S.mk {H' : Heap} (hS : va_S (zA base) s.heap H locs) (hb : base ≤ s.heap.size) (hz : H.size ≤ H'.size) (ho : ∀ x, x < H.size → H'[x]? = H[x]?) : va_S (zA base) s.heap H' locs :=
  ⟨Nat.le_trans hS.1 hz, fun x h1 h2 => (ho x (Nat.lt_of_lt_of_le h1 hS.1)).trans (hS.2.1 x h1 h2), hS.2.2⟩
theorem zs_newO {k : Nat} (F : zFx p R s mid args meth c m d) (E : zEnv D cA ad base s) (hdg : decode m.2.2.1 pc = .ok (.new k, len)) (h : zNewO pc len (zNew m.1 k) ls st q = some (.inl (pc', ls', st', q'))) (I : zIn D cA ad base s m ls st q H locs lsR) (hc : cells + (q'.1.length - q.1.length) ≤ R.cells) (hs : slots + (zSz q' - zSz q) ≤ R.slots)
    (kk : zGoal p l e R s mid args below meth c D cA ad base m cells slots Q q pc' ls' st' q') : W p l e R s mid args below meth c H locs cells slots Q (F0 mid pc lsR (st.map (zE ad))) := by
  unfold zNewO at h
  split at h
  · next C hC0 =>
    obtain ⟨w1, w2, w3, hC⟩ := zNew_ok hC0
    obtain ⟨h1, rfl, rfl, rfl, rfl⟩ := zNx_inv h
    simp only [Bool.and_eq_true, beq_iff_eq] at h1
    obtain ⟨rfl, -⟩ := h1
    rw [zPush_len] at hc
    rw [zPush_sz, Nat.one_mul] at hs
    have hKn := E.2.1.1 C _ (zCls_at hC)
    have had := zRel_ad I.1 E.1
    refine W.newcK F.1 F.2.1 F.2.2.2.1 (F.2.2.2.2.1 _ w1) (F.2.2.2.2.1 _ w2) (F.2.2.2.2.1 _ w3) rfl hdg hc hs hKn.2.1 rfl fun H' kC hkC e1 z1 o1 => ?_
    have hob := u_born (zTyF C) F.2.2.2.2.1 (zi_c hC) hKn hkC e1 (zty_c hC)
    have hR := zRel_push1 (kd := C) (sz := zNF C) I.1 E.1 z1 o1 ⟨fun _ => by
      rw [had]
      refine hob.to (fun j hj => ?_)
      simp only [zFv]
      rw [zZ_in ⟨Nat.le_refl _, by omega⟩, zZ_in ⟨Nat.le_refl _, by omega⟩, zZ_in ⟨Nat.le_refl _, by omega⟩]
      by_cases t3 : zTy C j = 3
      · rw [if_pos t3]
        rcases zTyF_3 hC hj t3 with ⟨n, e9⟩ | ⟨n, e9⟩ <;> (rw [e9]; rfl)
      · rw [if_neg t3]
        by_cases t2 : zTy C j = 2
        · rw [if_pos t2, zTyF_2 hC hj t2]
          decide +kernel
        · rw [if_neg t2]
          have ht : zTy C j = 0 ∨ zTy C j = 1 := by
            rw [← (zTk_c C hC j hj).1] at t3 t2 ⊢
            cases ht : zTyF C j <;> rw [ht] at t3 t2 <;> simp [zTk] at t3 t2 ⊢
          rcases ht with t0 | t1
          · rw [zTyF_0 hC hj t0]; decide +kernel
          · rw [zTyF_1 hC hj t1]; decide +kernel, fun z => absurd z (by simp only; omega)⟩
    have h9 := kk H' locs lsR ⟨hR, I.2.1, I.2.2.1, zOk_cons trivial I.2.2.2.1, va_S.mk I.2.2.2.2 E.2.2.2.2.2.2.2 (by omega) o1⟩
    rw [zPush_len, zPush_sz, Nat.one_mul] at h9
    rw [← had]
    exact h9
  · cases h
theorem zs_arr0 {kd n : Nat} {H' : Heap} (hR : zRel D cA ad base q s H) (hA : zAdr ad base) (hkk : 20 ≤ kd ∧ kd ≤ 23) (hz : H'.size = H.size + 1) (ho : ∀ x, x < H.size → H'[x]? = H[x]?) {v : Value} (hv : v = if kd = 20 ∨ kd = 21 then .int 0 else .null) (hcell : H'[H.size]? = some (arrV (cA kd) n (fun _ => v))) : zRel D cA ad base (zPush q 1 kd n) s H' := by
  refine zRel_push1 hR hA hz ho ⟨fun z => absurd z (by simp only; omega), fun _ _ => ?_⟩
  rw [zRel_ad hR hA, hcell]
  congr 2
  funext j
  simp only [zAv]
  rw [zZ_in ⟨Nat.le_refl _, by omega⟩, zZ_in ⟨Nat.le_refl _, by omega⟩, hv]
  split
  · decide +kernel
  · rfl
theorem zs_newI (F : zFx p R s mid args meth c m d) (E : zEnv D cA ad base s) (hdg : decode m.2.2.1 pc = .ok (.newarray .int, len)) (h : zNewA pc len 2 20 ls st q = some (.inl (pc', ls', st', q'))) (I : zIn D cA ad base s m ls st q H locs lsR) (hc : cells + (q'.1.length - q.1.length) ≤ R.cells) (hs : slots + (zSz q' - zSz q) ≤ R.slots)
    (kk : zGoal p l e R s mid args below meth c D cA ad base m cells slots Q q pc' ls' st' q') : W p l e R s mid args below meth c H locs cells slots Q (F0 mid pc lsR (st.map (zE ad))) := by
  unfold zNewA at h
  split at h
  · next n r =>
    obtain ⟨h1, rfl, rfl, rfl, rfl⟩ := zNx_inv h
    simp only [Bool.and_eq_true, beq_iff_eq, decide_eq_true_eq] at h1
    obtain ⟨⟨rfl, h0⟩, hn⟩ := h1
    rw [zPush_len] at hc
    rw [zPush_sz, Nat.one_mul] at hs
    have hk := List.forall_mem_cons.mp I.2.2.2.1
    have hi : zR n := hk.1
    have had := zRel_ad I.1 E.1
    refine va_newaK (atype := .int) F.1 F.2.1 (F.2.2.2.2.1 _ zAi) rfl hdg rfl (by rw [z_lt0 hi]; omega) (z_cl hi) (by show n.toNat * 4 ≤ _; omega) hc hs rfl fun H' cA' e1 z1 o1 _ hf => ?_
    have hcA : cA' = cA 20 := Option.some.inj (hf.symm.trans (E.2.1.2 0 _ rfl).2)
    subst hcA
    have h9 := kk H' locs lsR ⟨zs_arr0 I.1 E.1 (by omega) z1 o1 rfl e1, I.2.1, I.2.2.1, zOk_cons trivial hk.2, va_S.mk I.2.2.2.2 E.2.2.2.2.2.2.2 (by omega) o1⟩
    rw [zPush_len, zPush_sz, Nat.one_mul] at h9
    rw [← had]
    exact h9
  · cases h
theorem zs_newZ (F : zFx p R s mid args meth c m d) (E : zEnv D cA ad base s) (hdg : decode m.2.2.1 pc = .ok (.newarray .boolean, len)) (h : zNewA pc len 2 21 ls st q = some (.inl (pc', ls', st', q'))) (I : zIn D cA ad base s m ls st q H locs lsR) (hc : cells + (q'.1.length - q.1.length) ≤ R.cells) (hs : slots + (zSz q' - zSz q) ≤ R.slots)
    (kk : zGoal p l e R s mid args below meth c D cA ad base m cells slots Q q pc' ls' st' q') : W p l e R s mid args below meth c H locs cells slots Q (F0 mid pc lsR (st.map (zE ad))) := by
  unfold zNewA at h
  split at h
  · next n r =>
    obtain ⟨h1, rfl, rfl, rfl, rfl⟩ := zNx_inv h
    simp only [Bool.and_eq_true, beq_iff_eq, decide_eq_true_eq] at h1
    obtain ⟨⟨rfl, h0⟩, hn⟩ := h1
    rw [zPush_len] at hc
    rw [zPush_sz, Nat.one_mul] at hs
    have hk := List.forall_mem_cons.mp I.2.2.2.1
    have hi : zR n := hk.1
    have had := zRel_ad I.1 E.1
    refine va_newaK (atype := .boolean) F.1 F.2.1 (F.2.2.2.2.1 _ zAz) rfl hdg rfl (by rw [z_lt0 hi]; omega) (z_cl hi) (by show n.toNat * 1 ≤ _; omega) hc hs rfl fun H' cA' e1 z1 o1 _ hf => ?_
    have hcA : cA' = cA 21 := Option.some.inj (hf.symm.trans (E.2.1.2 1 _ rfl).2)
    subst hcA
    have h9 := kk H' locs lsR ⟨zs_arr0 I.1 E.1 (by omega) z1 o1 rfl e1, I.2.1, I.2.2.1, zOk_cons trivial hk.2, va_S.mk I.2.2.2.2 E.2.2.2.2.2.2.2 (by omega) o1⟩
    rw [zPush_len, zPush_sz, Nat.one_mul] at h9
    rw [← had]
    exact h9
  · cases h
theorem zs_newR {k C kd t0 : Nat} (F : zFx p R s mid args meth c m d) (E : zEnv D cA ad base s) (hdg : decode m.2.2.1 pc = .ok (.anewarray k, len)) (hnw : zNew m.1 k = some C) (hkk : kd = 22 ∨ kd = 23) (ht : (zTys cA)[t0]? = some (cA kd, .object (zCn C))) (hov : va_AO (zCn C) s) (h : zNewA pc len 3 kd ls st q = some (.inl (pc', ls', st', q'))) (I : zIn D cA ad base s m ls st q H locs lsR) (hc : cells + (q'.1.length - q.1.length) ≤ R.cells) (hs : slots + (zSz q' - zSz q) ≤ R.slots)
    (kk : zGoal p l e R s mid args below meth c D cA ad base m cells slots Q q pc' ls' st' q') : W p l e R s mid args below meth c H locs cells slots Q (F0 mid pc lsR (st.map (zE ad))) := by
  unfold zNewA at h
  split at h
  · next n r =>
    obtain ⟨h1, rfl, rfl, rfl, rfl⟩ := zNx_inv h
    simp only [Bool.and_eq_true, beq_iff_eq, decide_eq_true_eq] at h1
    obtain ⟨⟨rfl, h0⟩, hn⟩ := h1
    rw [zPush_len] at hc
    rw [zPush_sz, Nat.one_mul] at hs
    have hk := List.forall_mem_cons.mp I.2.2.2.1
    have hi : zR n := hk.1
    have had := zRel_ad I.1 E.1
    obtain ⟨w1, -, -, -⟩ := zNew_ok hnw
    refine W.anew F.1 F.2.1 F.2.2.2.1 (F.2.2.2.2.1 _ w1) (va_AO.use hov) rfl hdg rfl (by rw [z_lt0 hi]; omega) (by rw [z_cl hi]; omega) hc (by rw [z_cl hi]; exact hs) fun cA' kA comp f1 f2 f3 f4 => ?_
    obtain ⟨kA', comp', k1, k2, k3, k4⟩ := (E.2.1.2 t0 _ ht).2
    have hcA : cA' = cA kd := Option.some.inj (f1.symm.trans k4)
    subst hcA
    rw [z_cl hi, arrV_new]
    have h9 := kk (H.push (arrV (cA kd) n.toNat (fun _ => .null))) locs lsR ⟨zs_arr0 I.1 E.1 (by omega) (by simp) (fun x hx => by rw [Array.getElem?_push, if_neg (Nat.ne_of_lt hx)]) (by rw [if_neg (by omega)]) (by simp), I.2.1, I.2.2.1, zOk_cons trivial hk.2, va_S.mk I.2.2.2.2 E.2.2.2.2.2.2.2 (by simp) (fun x hx => by rw [Array.getElem?_push, if_neg (Nat.ne_of_lt hx)])⟩
    rw [zPush_len, zPush_sz, Nat.one_mul] at h9
    rw [← had]
    exact h9
  · cases h
end ZN
end
section
/-! new int[n][k]: an array of n references, and n arrays of k ints behind it -/
section ZMN
variable {p : Program} {l : Launch} {e : Env} {R : Room} {s : State} {mid : MethodId} {args : Array Value} {below : List Frame} {meth : Method} {c : Code} {H : Heap} {locs : List Loc} {cells slots : Nat} {Q : State → Prop} {D : va_G} {cA : Nat → ClassId} {ad : Nat → Nat} {base : Nat}
variable {m : zD} {d pc pc' len : Nat} {ls ls' st st' : List zV} {q q' : zS} {lsR : Array Slot}
theorem zOut (cc : ClassId) (N h0 : Nat) : ∀ i : Nat, Jvm.Free.Multi.outerC cc N h0 i = arrV cc N (fun j => if j < i then .ref (h0 + 1 + j) else .null)
  | 0 => by
    show ({ cls := cc, slots := Array.replicate N .null, vm := .none } : Cell) = _
    rw [arrV_new]
    congr 1
  | i + 1 => by
    show (Jvm.Free.Multi.outerC cc N h0 i).setSlot i (.ref (h0 + 1 + i)) = _
    rw [zOut cc N h0 i, arrV_store]
    congr 1
    funext j
    simp only [updV]
    by_cases e : j = i
    · rw [if_pos e, if_pos (by omega), e]
    · rw [if_neg e]
      by_cases h : j < i
      · rw [if_pos h, if_pos (Nat.lt_succ_of_lt h)]
      · rw [if_neg h, if_neg (by omega)]
set_option maxHeartbeats 4000000 in
theorem zs_newM {k dd : Nat} (F : zFx p R s mid args meth c m d) (E : zEnv D cA ad base s) (hdg : decode m.2.2.1 pc = .ok (.multianewarray k dd, len)) (hk6 : (m.1 = 6 ∨ m.1 = 7) ∧ k = 9 ∧ dd = 2) (h : zNewM pc len ls st q = some (.inl (pc', ls', st', q'))) (I : zIn D cA ad base s m ls st q H locs lsR) (hc : cells + (q'.1.length - q.1.length) ≤ R.cells) (hs : slots + (zSz q' - zSz q) ≤ R.slots)
    (kk : zGoal p l e R s mid args below meth c D cA ad base m cells slots Q q pc' ls' st' q') : W p l e R s mid args below meth c H locs cells slots Q (F0 mid pc lsR (st.map (zE ad))) := by
  obtain ⟨h67, rfl, rfl⟩ := hk6
  unfold zNewM at h
  split at h
  · next k n r =>
    obtain ⟨h1, rfl, rfl, rfl, rfl⟩ := zNx_inv h
    simp only [Bool.and_eq_true, beq_iff_eq, decide_eq_true_eq] at h1
    obtain ⟨⟨⟨⟨rfl, hn0⟩, hn1⟩, hk0⟩, hk1⟩ := h1
    have hkk := List.forall_mem_cons.mp I.2.2.2.1
    have hkk2 := List.forall_mem_cons.mp hkk.2
    have hkR : zR k := hkk.1
    have hnR : zR n := hkk2.1
    have hlen : (q.1 ++ List.replicate 1 (24, n.toNat) ++ List.replicate n.toNat (20, k.toNat)).length - q.1.length = 1 + n.toNat := by
      simp only [List.length_append, List.length_replicate]; omega
    have hsz : ((q.1 ++ List.replicate 1 (24, n.toNat) ++ List.replicate n.toNat (20, k.toNat)).map Prod.snd).sum - (q.1.map Prod.snd).sum = n.toNat + n.toNat * k.toNat := by
      simp
    have hc' : cells + (1 + n.toNat) ≤ R.cells := by rw [← hlen]; exact hc
    have hs' : slots + (n.toNat + n.toNat * k.toNat) ≤ R.slots := by rw [← hsz]; exact hs
    have hcl : (Cond.classLink (zCn m.1) 9 ("[" ++ (FieldType.array .int).toString)).before args s = true := by
      have e9 : "[" ++ (FieldType.array .int).toString = "[[I" := by decide +kernel
      rw [e9]
      rcases h67 with e | e
      · rw [e]; exact F.2.2.2.2.1 _ zM6
      · rw [e]; exact F.2.2.2.2.1 _ zM7
    have had := zRel_ad I.1 E.1
    intro T hT Xs
    obtain ⟨vm₁, cA', comp, -, fA, fC, -, -, X', step⟩ := Xs.multianewarray2F (ty := .int) (n := Int32.ofInt n) (k := Int32.ofInt k) F.1 F.2.2.2.1 hcl E.2.2.2.2.2.1 (F.2.2.2.2.1 _ zAi) (g := F0 mid pc lsR (.int (Int32.ofInt k) :: .int (Int32.ofInt n) :: r.map (zE ad))) rfl (by rw [F.2.1]; exact hdg) rfl (by rw [z_lt0 hnR]; omega) (by rw [z_lt0 hkR]; omega) (by rw [z_cl hnR]; omega) (by rw [z_cl hkR]; show k.toNat * 4 ≤ _; omega) (by rw [z_cl hkR]; omega) rfl rfl (by rw [z_cl hnR]; exact hc') (by rw [z_cl hnR, z_cl hkR]; exact hs')
    rw [z_cl hnR, z_cl hkR] at X' step
    have hcA : cA' = cA 24 := Option.some.inj (fA.symm.trans (E.2.1.2 4 _ rfl).2)
    have hcp : comp = cA 20 := Option.some.inj (fC.symm.trans (E.2.1.2 0 _ rfl).2)
    subst hcA
    subst hcp
    generalize hFF : Jvm.Free.Multi.fill (T.setVm vm₁) (cA 24) (cA 20) n.toNat k.toNat (defaultValue .int) n.toNat = FF at X' step
    have hTh : (T.setVm vm₁).heap = H := hT
    obtain ⟨f1, f2, -, -⟩ := Jvm.Free.Multi.fill_facts (T.setVm vm₁) (cA 24) (cA 20) n.toNat k.toNat (defaultValue .int) n.toNat
    rw [hFF, hTh] at f1 f2
    have hold : ∀ x : Nat, x < H.size → FF.heap[x]? = H[x]? := fun x hx => by
      have := Jvm.Free.Multi.fill_old (T.setVm vm₁) (cA 24) (cA 20) n.toNat k.toNat (defaultValue .int) (a := x) (by rw [hTh]; exact hx) n.toNat
      rw [hFF, hTh] at this
      exact this
    have hrow : ∀ j : Nat, j < n.toNat → FF.heap[H.size + 1 + j]? = some (arrV (cA 20) k.toNat (fun _ => .int 0)) := fun j hj => by
      have := Jvm.Free.Multi.fill_inner (T.setVm vm₁) (cA 24) (cA 20) n.toNat k.toNat (defaultValue .int) n.toNat j hj
      rw [hFF, hTh] at this
      rw [this]
      exact congrArg some (arrV_new _ _ _)
    rw [zOut] at f2
    have hszH := I.1.1
    have hR : zRel D cA ad base (q.1 ++ List.replicate 1 (24, n.toNat) ++ List.replicate n.toNat (20, k.toNat), (fun a j => if a = q.1.length ∧ j < n.toNat then ((q.1.length + 1 + j : Nat) : Int) else zZ (zZ q.2.1 1 q.1.length (-1)) n.toNat (q.1 ++ List.replicate 1 (24, n.toNat)).length (-1) a j), zZ (zZ q.2.2 1 q.1.length 0) n.toNat (q.1 ++ List.replicate 1 (24, n.toNat)).length 0) s FF.heap := by
      rw [List.append_assoc]
      refine zRel_ext (t := List.replicate 1 (24, n.toNat) ++ List.replicate n.toNat (20, k.toNat)) I.1 E.1 (by rw [f1]; simp only [List.length_append, List.length_replicate]; omega) hold (fun a j ha => ?_) (fun a j ha => ?_) (zR_zZ (zR_zZ I.1.2.2.2.2.2)) (fun i e he => ?_)
      · show (if a = q.1.length ∧ j < n.toNat then _ else _) = _
        rw [if_neg (by omega), zZ_out (by simp only [List.length_append, List.length_replicate]; omega), zZ_out ha]
      · rw [zZ_out (by simp only [List.length_append, List.length_replicate]; omega), zZ_out ha]
      · by_cases hi : i = 0
        · subst hi
          have he' : (24, n.toNat) = e := by simpa using he
          subst he'
          refine ⟨fun z => absurd z (by simp only; omega), fun _ _ => ?_⟩
          rw [Nat.add_zero, had, f2]
          congr 2
          funext j
          simp only [zAv]
          rw [if_neg (show ¬ (24 = 20 ∨ 24 = 21) by omega)]
          by_cases hj : j < n.toNat
          · rw [if_pos hj, if_pos ⟨trivial, hj⟩, zRf, if_neg (by omega)]
            rw [show ((q.1.length + 1 + j : Nat) : Int).toNat = q.1.length + 1 + j by omega, E.1.1 _ (by have := I.1.2.1; omega)]
            have h4 := I.1.2.1
            rw [show H.size + 1 + j = base + (q.1.length + 1 + j - 4) by omega]
          · rw [if_neg hj, if_neg (fun z => hj z.2), zZ_out (by simp only [List.length_append, List.length_replicate]; omega), zZ_in ⟨Nat.le_refl _, by omega⟩]
            rfl
        · have hi1 : 1 ≤ i := by omega
          have he2 : (List.replicate n.toNat (20, k.toNat))[i - 1]? = some e := by
            rw [List.getElem?_append_right (by simpa using hi1)] at he
            simpa using he
          have hlt : i - 1 < n.toNat := by have := (List.getElem?_eq_some_iff.mp he2).1; simpa using this
          have he' : (20, k.toNat) = e := by
            have := List.mem_of_getElem? he2
            exact (List.mem_replicate.mp this).2.symm
          subst he'
          refine ⟨fun z => absurd z (by simp only; omega), fun _ _ => ?_⟩
          have hade : ad (q.1.length + i) = H.size + 1 + (i - 1) := by
            rw [E.1.1 _ (by have := I.1.2.1; omega)]
            have := I.1.2.1
            omega
          rw [hade, hrow _ hlt]
          congr 2
          funext j
          simp only [zAv]
          rw [if_pos (Or.inl trivial), zZ_in ⟨by simp only [List.length_append, List.length_replicate]; omega, by simp only [List.length_append, List.length_replicate]; omega⟩]
          decide +kernel
    have K0 := kk FF.heap locs lsR ⟨hR, I.2.1, I.2.2.1, zOk_cons trivial hkk2.2, va_S.mk I.2.2.2.2 E.2.2.2.2.2.2.2 (by rw [f1]; omega) hold⟩
    have e1 : cells + 1 + n.toNat = cells + ((q.1 ++ List.replicate 1 (24, n.toNat) ++ List.replicate n.toNat (20, k.toNat)).length - q.1.length) := by rw [hlen]; omega
    have e2 : slots + n.toNat + n.toNat * k.toNat = slots + (((q.1 ++ List.replicate 1 (24, n.toNat) ++ List.replicate n.toNat (20, k.toNat)).map Prod.snd).sum - (q.1.map Prod.snd).sum) := by rw [hsz]; omega
    rw [e1, e2] at X'
    obtain ⟨t, a1, b1⟩ := K0 FF rfl X'
    refine ⟨t, step t ?_, b1⟩
    have e : T.heap.size = ad q.1.length := by rw [hT, had]
    rw [e]
    exact a1
  · cases h
end ZMN
end
section
/-! branches that are not taken: no target is wanted -/
section ZB
variable {p : Program} {l : Launch} {e : Env} {R : Room} {s : State} {mid : MethodId} {args : Array Value} {below : List Frame} {meth : Method} {c : Code} {H : Heap} {locs : List Loc} {cells slots : Nat} {Q : State → Prop} {D : va_G} {cA : Nat → ClassId} {ad : Nat → Nat} {base : Nat}
variable {m : zD} {d pc pc' len : Nat} {ls ls' st st' : List zV} {q q' : zS} {lsR : Array Slot}
variable {cc : ByteArray} {rest : List Value}
theorem zs_if_eq (hexec : p.tables.exec = Jvm.exec) (hb : c.code = cc) {x : Int32} {off : Int} (hdg : decode cc pc = .ok (.ifCond .eq off, 3)) (hP : ¬ (x = 0)) (kf : W p l e R s mid args below meth c H locs cells slots Q (F0 mid (pc + 3) lsR rest)) : W p l e R s mid args below meth c H locs cells slots Q (F0 mid pc lsR (.int x :: rest)) := by
  intro T hT X
  obtain ⟨t, a, b⟩ := kf T hT X
  refine ⟨t, ?_, b⟩
  jvm_step X.here [X.here.top, hexec, hb, hdg, Op.ifCond.holds, hP]
  exact a
theorem zs_if_ne (hexec : p.tables.exec = Jvm.exec) (hb : c.code = cc) {x : Int32} {off : Int} (hdg : decode cc pc = .ok (.ifCond .ne off, 3)) (hP : x = 0) (kf : W p l e R s mid args below meth c H locs cells slots Q (F0 mid (pc + 3) lsR rest)) : W p l e R s mid args below meth c H locs cells slots Q (F0 mid pc lsR (.int x :: rest)) := by
  intro T hT X
  obtain ⟨t, a, b⟩ := kf T hT X
  refine ⟨t, ?_, b⟩
  jvm_step X.here [X.here.top, hexec, hb, hdg, Op.ifCond.holds, hP]
  exact a
theorem zs_if_lt (hexec : p.tables.exec = Jvm.exec) (hb : c.code = cc) {x : Int32} {off : Int} (hdg : decode cc pc = .ok (.ifCond .lt off, 3)) (hP : ¬ (x < 0)) (kf : W p l e R s mid args below meth c H locs cells slots Q (F0 mid (pc + 3) lsR rest)) : W p l e R s mid args below meth c H locs cells slots Q (F0 mid pc lsR (.int x :: rest)) := by
  intro T hT X
  obtain ⟨t, a, b⟩ := kf T hT X
  refine ⟨t, ?_, b⟩
  jvm_step X.here [X.here.top, hexec, hb, hdg, Op.ifCond.holds, hP]
  exact a
theorem zs_if_ge (hexec : p.tables.exec = Jvm.exec) (hb : c.code = cc) {x : Int32} {off : Int} (hdg : decode cc pc = .ok (.ifCond .ge off, 3)) (hP : ¬ (0 ≤ x)) (kf : W p l e R s mid args below meth c H locs cells slots Q (F0 mid (pc + 3) lsR rest)) : W p l e R s mid args below meth c H locs cells slots Q (F0 mid pc lsR (.int x :: rest)) := by
  intro T hT X
  obtain ⟨t, a, b⟩ := kf T hT X
  refine ⟨t, ?_, b⟩
  jvm_step X.here [X.here.top, hexec, hb, hdg, Op.ifCond.holds, hP]
  exact a
theorem zs_if_gt (hexec : p.tables.exec = Jvm.exec) (hb : c.code = cc) {x : Int32} {off : Int} (hdg : decode cc pc = .ok (.ifCond .gt off, 3)) (hP : ¬ (0 < x)) (kf : W p l e R s mid args below meth c H locs cells slots Q (F0 mid (pc + 3) lsR rest)) : W p l e R s mid args below meth c H locs cells slots Q (F0 mid pc lsR (.int x :: rest)) := by
  intro T hT X
  obtain ⟨t, a, b⟩ := kf T hT X
  refine ⟨t, ?_, b⟩
  jvm_step X.here [X.here.top, hexec, hb, hdg, Op.ifCond.holds, hP]
  exact a
theorem zs_if_le (hexec : p.tables.exec = Jvm.exec) (hb : c.code = cc) {x : Int32} {off : Int} (hdg : decode cc pc = .ok (.ifCond .le off, 3)) (hP : ¬ (x ≤ 0)) (kf : W p l e R s mid args below meth c H locs cells slots Q (F0 mid (pc + 3) lsR rest)) : W p l e R s mid args below meth c H locs cells slots Q (F0 mid pc lsR (.int x :: rest)) := by
  intro T hT X
  obtain ⟨t, a, b⟩ := kf T hT X
  refine ⟨t, ?_, b⟩
  jvm_step X.here [X.here.top, hexec, hb, hdg, Op.ifCond.holds, hP]
  exact a
theorem zs_icmp_eq (hexec : p.tables.exec = Jvm.exec) (hb : c.code = cc) {x y : Int32} {off : Int} (hdg : decode cc pc = .ok (.if_icmp .eq off, 3)) (hP : ¬ (x = y)) (kf : W p l e R s mid args below meth c H locs cells slots Q (F0 mid (pc + 3) lsR rest)) : W p l e R s mid args below meth c H locs cells slots Q (F0 mid pc lsR (.int y :: .int x :: rest)) := by
  intro T hT X
  obtain ⟨t, a, b⟩ := kf T hT X
  refine ⟨t, ?_, b⟩
  jvm_step X.here [X.here.top, hexec, hb, hdg, Op.if_icmp.holds, hP]
  exact a
theorem zs_icmp_ne (hexec : p.tables.exec = Jvm.exec) (hb : c.code = cc) {x y : Int32} {off : Int} (hdg : decode cc pc = .ok (.if_icmp .ne off, 3)) (hP : x = y) (kf : W p l e R s mid args below meth c H locs cells slots Q (F0 mid (pc + 3) lsR rest)) : W p l e R s mid args below meth c H locs cells slots Q (F0 mid pc lsR (.int y :: .int x :: rest)) := by
  intro T hT X
  obtain ⟨t, a, b⟩ := kf T hT X
  refine ⟨t, ?_, b⟩
  jvm_step X.here [X.here.top, hexec, hb, hdg, Op.if_icmp.holds, hP]
  exact a
theorem zs_icmp_lt (hexec : p.tables.exec = Jvm.exec) (hb : c.code = cc) {x y : Int32} {off : Int} (hdg : decode cc pc = .ok (.if_icmp .lt off, 3)) (hP : ¬ (x < y)) (kf : W p l e R s mid args below meth c H locs cells slots Q (F0 mid (pc + 3) lsR rest)) : W p l e R s mid args below meth c H locs cells slots Q (F0 mid pc lsR (.int y :: .int x :: rest)) := by
  intro T hT X
  obtain ⟨t, a, b⟩ := kf T hT X
  refine ⟨t, ?_, b⟩
  jvm_step X.here [X.here.top, hexec, hb, hdg, Op.if_icmp.holds, hP]
  exact a
theorem zs_icmp_ge (hexec : p.tables.exec = Jvm.exec) (hb : c.code = cc) {x y : Int32} {off : Int} (hdg : decode cc pc = .ok (.if_icmp .ge off, 3)) (hP : ¬ (y ≤ x)) (kf : W p l e R s mid args below meth c H locs cells slots Q (F0 mid (pc + 3) lsR rest)) : W p l e R s mid args below meth c H locs cells slots Q (F0 mid pc lsR (.int y :: .int x :: rest)) := by
  intro T hT X
  obtain ⟨t, a, b⟩ := kf T hT X
  refine ⟨t, ?_, b⟩
  jvm_step X.here [X.here.top, hexec, hb, hdg, Op.if_icmp.holds, hP]
  exact a
theorem zs_icmp_gt (hexec : p.tables.exec = Jvm.exec) (hb : c.code = cc) {x y : Int32} {off : Int} (hdg : decode cc pc = .ok (.if_icmp .gt off, 3)) (hP : ¬ (y < x)) (kf : W p l e R s mid args below meth c H locs cells slots Q (F0 mid (pc + 3) lsR rest)) : W p l e R s mid args below meth c H locs cells slots Q (F0 mid pc lsR (.int y :: .int x :: rest)) := by
  intro T hT X
  obtain ⟨t, a, b⟩ := kf T hT X
  refine ⟨t, ?_, b⟩
  jvm_step X.here [X.here.top, hexec, hb, hdg, Op.if_icmp.holds, hP]
  exact a
theorem zs_icmp_le (hexec : p.tables.exec = Jvm.exec) (hb : c.code = cc) {x y : Int32} {off : Int} (hdg : decode cc pc = .ok (.if_icmp .le off, 3)) (hP : ¬ (x ≤ y)) (kf : W p l e R s mid args below meth c H locs cells slots Q (F0 mid (pc + 3) lsR rest)) : W p l e R s mid args below meth c H locs cells slots Q (F0 mid pc lsR (.int y :: .int x :: rest)) := by
  intro T hT X
  obtain ⟨t, a, b⟩ := kf T hT X
  refine ⟨t, ?_, b⟩
  jvm_step X.here [X.here.top, hexec, hb, hdg, Op.if_icmp.holds, hP]
  exact a
end ZB
/-! one step -/
section ZO
variable {p : Program} {l : Launch} {e : Env} {R : Room} {s : State} {mid : MethodId} {args : Array Value} {below : List Frame} {meth : Method} {c : Code} {H : Heap} {locs : List Loc} {cells slots : Nat} {Q : State → Prop} {D : va_G} {cA : Nat → ClassId} {ad : Nat → Nat} {base : Nat}
variable {m : zD} {d pc pc' len : Nat} {ls ls' st st' : List zV} {q q' : zS} {lsR : Array Slot}
theorem zCallV_ne {f : Option (Nat × Nat × zD)} {x : Nat × List zV × List zV × zS} : zCallV pc len f st q ≠ some (.inl x) := by
  unfold zCallV
  intro h
  split at h
  · split at h
    · split at h
      · cases h
      · cases h
    · cases h
  · cases h
theorem zCallS_ne {f : Option (Nat × Nat × zD)} {x : Nat × List zV × List zV × zS} : zCallS pc len f st q ≠ some (.inl x) := by
  unfold zCallS
  intro h
  split at h
  · split at h
    · cases h
    · cases h
  · cases h
theorem zRet_ne {x : Nat × List zV × List zV × zS} : zRet m len st ≠ some (.inl x) := by
  unfold zRet
  intro h
  split at h
  · split at h
    · cases h
    · cases h
  · cases h
theorem zCs_sum (l : List zV) : ((l.map (zE ad)).map fun v => v.category).sum = zCs l := by
  unfold zCs
  rw [List.map_map]
  congr 1
  exact List.map_congr_left (fun v _ => zE_cat ad v)
set_option maxHeartbeats 4000000 in
theorem zS1 {i : Jvm.ClassFile.Instr} (F : zFx p R s mid args meth c m d) (E : zEnv D cA ad base s) (hdg : decode m.2.2.1 pc = .ok (i, len)) (h : zEx m pc len i ls st q = some (.inl (pc', ls', st', q'))) (I : zIn D cA ad base s m ls st q H locs lsR) (hc : cells + (q'.1.length - q.1.length) ≤ R.cells) (hs : slots + (zSz q' - zSz q) ≤ R.slots) (hc0 : cells ≤ R.cells) (hs0 : slots ≤ R.slots)
    (kk : zGoal p l e R s mid args below meth c D cA ad base m cells slots Q q pc' ls' st' q') : W p l e R s mid args below meth c H locs cells slots Q (F0 mid pc lsR (st.map (zE ad))) := by
  have hx := F.1
  have hb := F.2.1
  have hl := zLR_has I.2.1
  cases i with
  | iconst n =>
    obtain ⟨h1, rfl, rfl, rfl, rfl⟩ := zNx_inv h
    simp only [Bool.and_eq_true, beq_iff_eq, decide_eq_true_eq] at h1
    obtain ⟨rfl, hn⟩ := h1
    exact zs_push (v := iV n) (fun k9 => lv_iconst hx hb hdg rfl k9) (zR_sm (by omega) (by omega)) I kk
  | bipush n =>
    obtain ⟨h1, rfl, rfl, rfl, rfl⟩ := zNx_inv h
    simp only [Bool.and_eq_true, beq_iff_eq, decide_eq_true_eq] at h1
    obtain ⟨rfl, hn⟩ := h1
    exact zs_push (v := iV n) (fun k9 => lv_bipush hx hb hdg (z_i8 hn) k9) (zR_sm (by omega) (by omega)) I kk
  | sipush n =>
    obtain ⟨h1, rfl, rfl, rfl, rfl⟩ := zNx_inv h
    simp only [Bool.and_eq_true, beq_iff_eq, decide_eq_true_eq] at h1
    obtain ⟨rfl, hn⟩ := h1
    exact zs_push (v := iV n) (fun k9 => lv_sipush hx hb hdg (z_i16 hn) k9) (zR_sm (by omega) (by omega)) I kk
  | ldc n =>
    simp only [zEx] at h
    split at h
    · next v hv =>
      obtain ⟨h1, rfl, rfl, rfl, rfl⟩ := zNx_inv h
      have h1 : len = 2 := by simpa using h1
      subst h1
      obtain ⟨w1, w2⟩ := zCst_ok hv
      exact zs_push (v := iV v) (fun k9 => lv_ldc hx hb F.2.2.2.1 (F.2.2.2.2.1 _ w1) hdg k9) w2 I kk
    · cases h
  | ldc_w n =>
    simp only [zEx] at h
    split at h
    · next v hv =>
      obtain ⟨h1, rfl, rfl, rfl, rfl⟩ := zNx_inv h
      have h1 : len = 3 := by simpa using h1
      subst h1
      obtain ⟨w1, w2⟩ := zCst_ok hv
      exact zs_push (v := iV v) (fun k9 => lv_ldcw hx hb F.2.2.2.1 (F.2.2.2.2.1 _ w1) hdg k9) w2 I kk
    · cases h
  | ldc2_w n =>
    simp only [zEx] at h
    split at h
    · next v hv =>
      obtain ⟨h1, rfl, rfl, rfl, rfl⟩ := zNx_inv h
      have h1 : len = 3 := by simpa using h1
      subst h1
      exact zs_push (v := lV v) (fun k9 => lv_ldc2 hx hb F.2.2.2.1 (F.2.2.2.2.1 _ (zCstL_ok hv)) hdg k9) trivial I kk
    · cases h
  | iload k =>
    exact zs_ldI h I (fun e9 x rest h9 k9 => by subst e9; exact lv_iload hx hb hdg h9 k9) kk
  | iload_n k =>
    exact zs_ldI h I (fun e9 x rest h9 k9 => by subst e9; exact lv_iload_n hx hb hdg rfl h9 k9) kk
  | istore k =>
    exact zs_stI h I (fun e9 x rest hn k9 => by subst e9; exact lv_istore hx hb hdg hl hn rfl k9) kk
  | istore_n k =>
    exact zs_stI h I (fun e9 x rest hn k9 => by subst e9; exact lv_istore_n hx hb hdg rfl hl hn rfl k9) kk
  | lload k =>
    exact zs_ldL h I (fun e9 x rest h9 k9 => by subst e9; exact lv_lload hx hb hdg h9 k9) kk
  | lload_n k =>
    exact zs_ldL h I (fun e9 x rest h9 k9 => by subst e9; exact lv_lload_n hx hb hdg rfl h9 k9) kk
  | lstore k =>
    exact zs_stL h I (fun e9 x rest hn k9 => by subst e9; exact lv_lstore hx hb hdg hl hn rfl k9) kk
  | lstore_n k =>
    exact zs_stL h I (fun e9 x rest hn k9 => by subst e9; exact lv_lstore_n hx hb hdg rfl hl hn rfl k9) kk
  | aload k =>
    exact zs_ldA h I (fun e9 x rest h9 k9 => by subst e9; exact lv_aload hx hb hdg h9 k9) kk
  | aload_n k =>
    exact zs_ldA h I (fun e9 x rest h9 k9 => by subst e9; exact lv_aload_n hx hb hdg rfl h9 k9) kk
  | astore k =>
    exact zs_stA h I (fun e9 x rest hn k9 => by subst e9; exact lv_astore hx hb hdg hl hn rfl k9) kk
  | astore_n k =>
    exact zs_stA h I (fun e9 x rest hn k9 => by subst e9; exact lv_astore_n hx hb hdg rfl hl hn rfl k9) kk
  | iinc k n =>
    simp only [zEx] at h
    split at h
    · next a ha =>
      obtain ⟨h1, rfl, rfl, rfl, rfl⟩ := zNx_inv h
      simp only [Bool.and_eq_true, beq_iff_eq] at h1
      obtain ⟨rfl, hf⟩ := h1
      obtain ⟨j, hj⟩ := List.getElem?_of_mem (zAl_in (ad := ad) ha (fun e => by cases e))
      have hlt : k < m.2.2.2.1 := by rw [← I.2.1.2.1]; exact (List.getElem?_eq_some_iff.mp ha).1
      refine lv_iinc (v := Int32.ofInt (zI2 (· + ·) a n)) hx hb hdg hl hj ?_ hlt rfl fun lsR' hl' => ?_
      · show _ = Int32.ofInt (Int32.ofInt a + Int32.ofInt n).toInt
        rw [z_re]
      · exact kk.same (I.loc (zLR_set (v := iV (zI2 (· + ·) a n)) I.2.1.2.1 hf hl') (zOk_set I.2.2.1 (zR_of _)) I.2.2.2.1)
    · cases h
  | iadd =>
    exact zs_bin h I (fun e9 a b rest _ _ k9 => by subst e9; exact lv_iadd hx hb hdg k9) kk
  | isub =>
    exact zs_bin h I (fun e9 a b rest _ _ k9 => by subst e9; exact lv_isub hx hb hdg k9) kk
  | imul =>
    exact zs_bin h I (fun e9 a b rest _ _ k9 => by subst e9; exact lv_imul hx hb hdg k9) kk
  | iand =>
    exact zs_bin h I (fun e9 a b rest _ _ k9 => by subst e9; exact lv_iand hx hb hdg k9) kk
  | ior =>
    exact zs_bin h I (fun e9 a b rest _ _ k9 => by subst e9; exact lv_ior hx hb hdg k9) kk
  | ixor =>
    exact zs_bin h I (fun e9 a b rest _ _ k9 => by subst e9; exact lv_ixor hx hb hdg k9) kk
  | ishl =>
    exact zs_bin h I (fun e9 a b rest _ _ k9 => by subst e9; exact lv_ishl hx hb hdg k9) kk
  | ishr =>
    exact zs_bin h I (fun e9 a b rest _ _ k9 => by subst e9; exact lv_ishr hx hb hdg k9) kk
  | iushr =>
    exact zs_bin h I (fun e9 a b rest _ _ k9 => by subst e9; exact lv_iushr hx hb hdg rfl k9) kk
  | idiv =>
    exact zs_bin h I (fun e9 a b rest hb9 h9 k9 => by subst e9; exact lv_idiv hx hb hdg (by rw [z_eq0 hb9]; exact of_decide_eq_true h9) k9) kk
  | irem =>
    exact zs_bin h I (fun e9 a b rest hb9 h9 k9 => by subst e9; exact lv_irem hx hb hdg (by rw [z_eq0 hb9]; exact of_decide_eq_true h9) k9) kk
  | ineg =>
    simp only [zEx] at h
    split at h
    · next a r =>
      obtain ⟨h1, rfl, rfl, rfl, rfl⟩ := zNx_inv h
      have h1 : len = 1 := by simpa using h1
      subst h1
      have hk := List.forall_mem_cons.mp I.2.2.2.1
      have h9 := kk.same (I.stk (zOk_cons (zR_of _) hk.2))
      simp only [List.map_cons, zE, z_re] at h9
      exact lv_ineg hx hb hdg h9
    · cases h
  | i2l =>
    simp only [zEx] at h
    split at h
    · next a r =>
      obtain ⟨h1, rfl, rfl, rfl, rfl⟩ := zNx_inv h
      have h1 : len = 1 := by simpa using h1
      subst h1
      have hk := List.forall_mem_cons.mp I.2.2.2.1
      exact lv_i2l hx hb hdg rfl (kk.same (I.stk (zOk_cons trivial hk.2)))
    · cases h
  | ladd =>
    simp only [zEx] at h
    split at h
    · next b a r =>
      obtain ⟨h1, rfl, rfl, rfl, rfl⟩ := zNx_inv h
      have h1 : len = 1 := by simpa using h1
      subst h1
      have hk := List.forall_mem_cons.mp I.2.2.2.1
      have hk2 := List.forall_mem_cons.mp hk.2
      exact lv_ladd hx hb hdg (kk.same (I.stk (zOk_cons trivial hk2.2)))
    · cases h
  | lmul =>
    simp only [zEx] at h
    split at h
    · next b a r =>
      obtain ⟨h1, rfl, rfl, rfl, rfl⟩ := zNx_inv h
      have h1 : len = 1 := by simpa using h1
      subst h1
      have hk := List.forall_mem_cons.mp I.2.2.2.1
      have hk2 := List.forall_mem_cons.mp hk.2
      exact lv_lmul hx hb hdg (kk.same (I.stk (zOk_cons trivial hk2.2)))
    · cases h
  | lcmp =>
    simp only [zEx] at h
    split at h
    · next b a r =>
      obtain ⟨h1, rfl, rfl, rfl, rfl⟩ := zNx_inv h
      have h1 : len = 1 := by simpa using h1
      subst h1
      have hk := List.forall_mem_cons.mp I.2.2.2.1
      have hk2 := List.forall_mem_cons.mp hk.2
      have h9 := kk.same (I.stk (zOk_cons (zR_of _) hk2.2))
      simp only [List.map_cons, zE, z_re] at h9
      exact W.lcmp hx hb hdg h9
    · cases h
  | dup =>
    simp only [zEx] at h
    split at h
    · next v r =>
      obtain ⟨h1, rfl, rfl, rfl, rfl⟩ := zNx_inv h
      simp only [Bool.and_eq_true, beq_iff_eq] at h1
      obtain ⟨rfl, hv⟩ := h1
      have hk := List.forall_mem_cons.mp I.2.2.2.1
      exact lv_dup hx hb hdg (by rw [zE_cat]; exact hv) (kk.same (I.stk (zOk_cons hk.1 I.2.2.2.1)))
    · cases h
  | pop =>
    simp only [zEx] at h
    split at h
    · next v r =>
      obtain ⟨h1, rfl, rfl, rfl, rfl⟩ := zNx_inv h
      simp only [Bool.and_eq_true, beq_iff_eq] at h1
      obtain ⟨rfl, hv⟩ := h1
      have hk := List.forall_mem_cons.mp I.2.2.2.1
      exact lv_pop hx hb hdg (by rw [zE_cat]; exact hv) (kk.same (I.stk hk.2))
    · cases h
  | dup2 =>
    simp only [zEx] at h
    split at h
    · next v w r =>
      obtain ⟨h1, rfl, rfl, rfl, rfl⟩ := zNx_inv h
      simp only [Bool.and_eq_true, beq_iff_eq] at h1
      obtain ⟨⟨rfl, hv⟩, hw⟩ := h1
      have hk := List.forall_mem_cons.mp I.2.2.2.1
      have hk2 := List.forall_mem_cons.mp hk.2
      exact lv_dup2_11 hx hb hdg (by rw [zE_cat]; exact hv) (by rw [zE_cat]; exact hw) (kk.same (I.stk (zOk_cons hk.1 (zOk_cons hk2.1 I.2.2.2.1))))
    · cases h
  | ifCond cd off =>
    simp only [zEx] at h
    split at h
    · next a r =>
      have hk := List.forall_mem_cons.mp I.2.2.2.1
      have ha : zR a := hk.1
      cases cd with
      | eq =>
        refine W.eq (g2 := F0 mid pc lsR (.int (Int32.ofInt a) :: r.map (zE ad))) rfl ?_
        by_cases hz : zC .eq a 0 = true
        · rw [if_pos hz] at h
          obtain ⟨h1, ht, rfl, rfl, rfl⟩ := zs_jp h
          have h1 : len = 3 := by simpa using h1
          subst h1
          have hz := of_decide_eq_true hz
          exact lv_if_eq hx hb hdg ht (fun _ => kk.same (I.stk hk.2)) (fun h9 => absurd ((z_eq0 ha).mpr hz) h9)
        · rw [if_neg hz] at h
          obtain ⟨h1, rfl, rfl, rfl, rfl⟩ := zNx_inv h
          have h1 : len = 3 := by simpa using h1
          subst h1
          have hz : ¬ _ := fun h9 => hz (decide_eq_true h9)
          exact zs_if_eq hx hb hdg (fun h9 => hz ((z_eq0 ha).mp h9)) (kk.same (I.stk hk.2))
      | ne =>
        refine W.eq (g2 := F0 mid pc lsR (.int (Int32.ofInt a) :: r.map (zE ad))) rfl ?_
        by_cases hz : zC .ne a 0 = true
        · rw [if_pos hz] at h
          obtain ⟨h1, ht, rfl, rfl, rfl⟩ := zs_jp h
          have h1 : len = 3 := by simpa using h1
          subst h1
          have hz := of_decide_eq_true hz
          exact lv_if_ne hx hb hdg ht (fun _ => kk.same (I.stk hk.2)) (fun h9 => absurd h9 ((not_congr (z_eq0 ha)).mpr hz))
        · rw [if_neg hz] at h
          obtain ⟨h1, rfl, rfl, rfl, rfl⟩ := zNx_inv h
          have h1 : len = 3 := by simpa using h1
          subst h1
          have hz : ¬ _ := fun h9 => hz (decide_eq_true h9)
          exact zs_if_ne hx hb hdg ((z_eq0 ha).mpr (Decidable.of_not_not hz)) (kk.same (I.stk hk.2))
      | lt =>
        refine W.eq (g2 := F0 mid pc lsR (.int (Int32.ofInt a) :: r.map (zE ad))) rfl ?_
        by_cases hz : zC .lt a 0 = true
        · rw [if_pos hz] at h
          obtain ⟨h1, ht, rfl, rfl, rfl⟩ := zs_jp h
          have h1 : len = 3 := by simpa using h1
          subst h1
          have hz := of_decide_eq_true hz
          exact lv_if_lt hx hb hdg ht (fun _ => kk.same (I.stk hk.2)) (fun h9 => absurd ((z_lt0 ha).mpr hz) h9)
        · rw [if_neg hz] at h
          obtain ⟨h1, rfl, rfl, rfl, rfl⟩ := zNx_inv h
          have h1 : len = 3 := by simpa using h1
          subst h1
          have hz : ¬ _ := fun h9 => hz (decide_eq_true h9)
          exact zs_if_lt hx hb hdg (fun h9 => hz ((z_lt0 ha).mp h9)) (kk.same (I.stk hk.2))
      | ge =>
        refine W.eq (g2 := F0 mid pc lsR (.int (Int32.ofInt a) :: r.map (zE ad))) rfl ?_
        by_cases hz : zC .ge a 0 = true
        · rw [if_pos hz] at h
          obtain ⟨h1, ht, rfl, rfl, rfl⟩ := zs_jp h
          have h1 : len = 3 := by simpa using h1
          subst h1
          have hz := of_decide_eq_true hz
          exact lv_if_ge hx hb hdg ht (fun _ => kk.same (I.stk hk.2)) (fun h9 => absurd ((z_0le ha).mpr hz) h9)
        · rw [if_neg hz] at h
          obtain ⟨h1, rfl, rfl, rfl, rfl⟩ := zNx_inv h
          have h1 : len = 3 := by simpa using h1
          subst h1
          have hz : ¬ _ := fun h9 => hz (decide_eq_true h9)
          exact zs_if_ge hx hb hdg (fun h9 => hz ((z_0le ha).mp h9)) (kk.same (I.stk hk.2))
      | gt =>
        refine W.eq (g2 := F0 mid pc lsR (.int (Int32.ofInt a) :: r.map (zE ad))) rfl ?_
        by_cases hz : zC .gt a 0 = true
        · rw [if_pos hz] at h
          obtain ⟨h1, ht, rfl, rfl, rfl⟩ := zs_jp h
          have h1 : len = 3 := by simpa using h1
          subst h1
          have hz := of_decide_eq_true hz
          exact lv_if_gt hx hb hdg ht (fun _ => kk.same (I.stk hk.2)) (fun h9 => absurd ((z_0lt ha).mpr hz) h9)
        · rw [if_neg hz] at h
          obtain ⟨h1, rfl, rfl, rfl, rfl⟩ := zNx_inv h
          have h1 : len = 3 := by simpa using h1
          subst h1
          have hz : ¬ _ := fun h9 => hz (decide_eq_true h9)
          exact zs_if_gt hx hb hdg (fun h9 => hz ((z_0lt ha).mp h9)) (kk.same (I.stk hk.2))
      | le =>
        refine W.eq (g2 := F0 mid pc lsR (.int (Int32.ofInt a) :: r.map (zE ad))) rfl ?_
        by_cases hz : zC .le a 0 = true
        · rw [if_pos hz] at h
          obtain ⟨h1, ht, rfl, rfl, rfl⟩ := zs_jp h
          have h1 : len = 3 := by simpa using h1
          subst h1
          have hz := of_decide_eq_true hz
          exact lv_if_le hx hb hdg ht (fun _ => kk.same (I.stk hk.2)) (fun h9 => absurd ((z_le0 ha).mpr hz) h9)
        · rw [if_neg hz] at h
          obtain ⟨h1, rfl, rfl, rfl, rfl⟩ := zNx_inv h
          have h1 : len = 3 := by simpa using h1
          subst h1
          have hz : ¬ _ := fun h9 => hz (decide_eq_true h9)
          exact zs_if_le hx hb hdg (fun h9 => hz ((z_le0 ha).mp h9)) (kk.same (I.stk hk.2))
    · cases h
  | if_icmp cd off =>
    simp only [zEx] at h
    split at h
    · next b a r =>
      have hk := List.forall_mem_cons.mp I.2.2.2.1
      have hk2 := List.forall_mem_cons.mp hk.2
      have ha : zR a := hk2.1
      have hb9 : zR b := hk.1
      cases cd with
      | eq =>
        refine W.eq (g2 := F0 mid pc lsR (.int (Int32.ofInt b) :: .int (Int32.ofInt a) :: r.map (zE ad))) rfl ?_
        by_cases hz : zC .eq a b = true
        · rw [if_pos hz] at h
          obtain ⟨h1, ht, rfl, rfl, rfl⟩ := zs_jp h
          have h1 : len = 3 := by simpa using h1
          subst h1
          have hz := of_decide_eq_true hz
          exact lv_icmp_eq hx hb hdg ht (fun _ => kk.same (I.stk hk2.2)) (fun h9 => absurd ((z_eq ha hb9).mpr hz) h9)
        · rw [if_neg hz] at h
          obtain ⟨h1, rfl, rfl, rfl, rfl⟩ := zNx_inv h
          have h1 : len = 3 := by simpa using h1
          subst h1
          have hz : ¬ _ := fun h9 => hz (decide_eq_true h9)
          exact zs_icmp_eq hx hb hdg (fun h9 => hz ((z_eq ha hb9).mp h9)) (kk.same (I.stk hk2.2))
      | ne =>
        refine W.eq (g2 := F0 mid pc lsR (.int (Int32.ofInt b) :: .int (Int32.ofInt a) :: r.map (zE ad))) rfl ?_
        by_cases hz : zC .ne a b = true
        · rw [if_pos hz] at h
          obtain ⟨h1, ht, rfl, rfl, rfl⟩ := zs_jp h
          have h1 : len = 3 := by simpa using h1
          subst h1
          have hz := of_decide_eq_true hz
          exact lv_icmp_ne hx hb hdg ht (fun _ => kk.same (I.stk hk2.2)) (fun h9 => absurd h9 ((not_congr (z_eq ha hb9)).mpr hz))
        · rw [if_neg hz] at h
          obtain ⟨h1, rfl, rfl, rfl, rfl⟩ := zNx_inv h
          have h1 : len = 3 := by simpa using h1
          subst h1
          have hz : ¬ _ := fun h9 => hz (decide_eq_true h9)
          exact zs_icmp_ne hx hb hdg ((z_eq ha hb9).mpr (Decidable.of_not_not hz)) (kk.same (I.stk hk2.2))
      | lt =>
        refine W.eq (g2 := F0 mid pc lsR (.int (Int32.ofInt b) :: .int (Int32.ofInt a) :: r.map (zE ad))) rfl ?_
        by_cases hz : zC .lt a b = true
        · rw [if_pos hz] at h
          obtain ⟨h1, ht, rfl, rfl, rfl⟩ := zs_jp h
          have h1 : len = 3 := by simpa using h1
          subst h1
          have hz := of_decide_eq_true hz
          exact lv_icmp_lt hx hb hdg ht (fun _ => kk.same (I.stk hk2.2)) (fun h9 => absurd ((z_lt ha hb9).mpr hz) h9)
        · rw [if_neg hz] at h
          obtain ⟨h1, rfl, rfl, rfl, rfl⟩ := zNx_inv h
          have h1 : len = 3 := by simpa using h1
          subst h1
          have hz : ¬ _ := fun h9 => hz (decide_eq_true h9)
          exact zs_icmp_lt hx hb hdg (fun h9 => hz ((z_lt ha hb9).mp h9)) (kk.same (I.stk hk2.2))
      | ge =>
        refine W.eq (g2 := F0 mid pc lsR (.int (Int32.ofInt b) :: .int (Int32.ofInt a) :: r.map (zE ad))) rfl ?_
        by_cases hz : zC .ge a b = true
        · rw [if_pos hz] at h
          obtain ⟨h1, ht, rfl, rfl, rfl⟩ := zs_jp h
          have h1 : len = 3 := by simpa using h1
          subst h1
          have hz := of_decide_eq_true hz
          exact lv_icmp_ge hx hb hdg ht (fun _ => kk.same (I.stk hk2.2)) (fun h9 => absurd ((z_le hb9 ha).mpr hz) h9)
        · rw [if_neg hz] at h
          obtain ⟨h1, rfl, rfl, rfl, rfl⟩ := zNx_inv h
          have h1 : len = 3 := by simpa using h1
          subst h1
          have hz : ¬ _ := fun h9 => hz (decide_eq_true h9)
          exact zs_icmp_ge hx hb hdg (fun h9 => hz ((z_le hb9 ha).mp h9)) (kk.same (I.stk hk2.2))
      | gt =>
        refine W.eq (g2 := F0 mid pc lsR (.int (Int32.ofInt b) :: .int (Int32.ofInt a) :: r.map (zE ad))) rfl ?_
        by_cases hz : zC .gt a b = true
        · rw [if_pos hz] at h
          obtain ⟨h1, ht, rfl, rfl, rfl⟩ := zs_jp h
          have h1 : len = 3 := by simpa using h1
          subst h1
          have hz := of_decide_eq_true hz
          exact lv_icmp_gt hx hb hdg ht (fun _ => kk.same (I.stk hk2.2)) (fun h9 => absurd ((z_lt hb9 ha).mpr hz) h9)
        · rw [if_neg hz] at h
          obtain ⟨h1, rfl, rfl, rfl, rfl⟩ := zNx_inv h
          have h1 : len = 3 := by simpa using h1
          subst h1
          have hz : ¬ _ := fun h9 => hz (decide_eq_true h9)
          exact zs_icmp_gt hx hb hdg (fun h9 => hz ((z_lt hb9 ha).mp h9)) (kk.same (I.stk hk2.2))
      | le =>
        refine W.eq (g2 := F0 mid pc lsR (.int (Int32.ofInt b) :: .int (Int32.ofInt a) :: r.map (zE ad))) rfl ?_
        by_cases hz : zC .le a b = true
        · rw [if_pos hz] at h
          obtain ⟨h1, ht, rfl, rfl, rfl⟩ := zs_jp h
          have h1 : len = 3 := by simpa using h1
          subst h1
          have hz := of_decide_eq_true hz
          exact lv_icmp_le hx hb hdg ht (fun _ => kk.same (I.stk hk2.2)) (fun h9 => absurd ((z_le ha hb9).mpr hz) h9)
        · rw [if_neg hz] at h
          obtain ⟨h1, rfl, rfl, rfl, rfl⟩ := zNx_inv h
          have h1 : len = 3 := by simpa using h1
          subst h1
          have hz : ¬ _ := fun h9 => hz (decide_eq_true h9)
          exact zs_icmp_le hx hb hdg (fun h9 => hz ((z_le ha hb9).mp h9)) (kk.same (I.stk hk2.2))
    · cases h
  | goto off =>
    obtain ⟨h1, ht, rfl, rfl, rfl⟩ := zs_jp h
    have h1 : len = 3 := by simpa using h1
    subst h1
    exact lv_goto hx hb hdg ht (kk.same I)
  | tableswitch dd lo hi offs =>
    simp only [zEx] at h
    split at h
    · next a r =>
      have hk := List.forall_mem_cons.mp I.2.2.2.1
      have ha : zR a := hk.1
      split at h
      · next ho =>
        obtain ⟨-, ht, rfl, rfl, rfl⟩ := zs_jp h
        exact lv_tableOut hx hb hdg (by rw [z_of ha]; exact ho) ht (kk.same (I.stk hk.2))
      · next ho =>
        split at h
        · next off hof =>
          obtain ⟨-, ht, rfl, rfl, rfl⟩ := zs_jp h
          exact lv_tableIn hx hb hdg (by rw [z_of ha]; omega) (by rw [z_of ha]; omega) (by rw [z_of ha]; exact hof) ht (kk.same (I.stk hk.2))
        · cases h
    · cases h
  | getfield k =>
    exact zs_getF F E hdg h I kk
  | putfield k =>
    exact zs_putF F E hdg h I kk
  | getstatic k =>
    simp only [zEx] at h
    split at h
    · next a ha =>
      obtain ⟨h1, rfl, rfl, rfl, rfl⟩ := zNx_inv h
      have h1 : len = 3 := by simpa using h1
      subst h1
      exact zs_getS F E hdg ha I kk
    · cases h
  | iaload =>
    exact zs_iald F E hdg h I kk
  | baload =>
    exact zs_bald F E hdg h I kk
  | aaload =>
    exact zs_aald F E hdg h I kk
  | iastore =>
    exact zs_iast F E hdg h I kk
  | bastore =>
    exact zs_bast F E hdg h I kk
  | aastore =>
    exact zs_aast F E hdg h I kk
  | arraylength =>
    exact zs_alen F E hdg h I kk
  | new k =>
    exact zs_newO F E hdg h I hc hs kk
  | newarray t =>
    simp only [zEx] at h
    split at h
    · next ht =>
      subst ht
      exact zs_newI F E hdg h I hc hs kk
    · split at h
      · next ht =>
        subst ht
        exact zs_newZ F E hdg h I hc hs kk
      · cases h
  | anewarray k =>
    simp only [zEx] at h
    split at h
    · next hn => exact zs_newR (t0 := 2) F E hdg hn (Or.inl rfl) rfl E.2.2.2.1 h I hc hs kk
    · split at h
      · next hn => exact zs_newR (t0 := 3) F E hdg hn (Or.inr rfl) rfl E.2.2.2.2.1 h I hc hs kk
      · cases h
  | multianewarray k dd =>
    simp only [zEx] at h
    split at h
    · next hk => exact zs_newM F E hdg hk h I hc hs kk
    · cases h
  | invokevirtual k =>
    exact absurd h (zCallV_ne (pc := pc))
  | invokestatic k =>
    simp only [zEx] at h
    split at h
    · next a ha =>
      obtain ⟨w1, wa⟩ := zMth_ok ha
      unfold zMathS at h
      have hml : c.maxLocals = lsR.size := by rw [F.2.2.1]; exact I.2.1.1.symm
      split at h
      · next b a r =>
        obtain ⟨h1, rfl, rfl, rfl, rfl⟩ := zNx_inv h
        simp only [Bool.and_eq_true, beq_iff_eq, decide_eq_true_eq] at h1
        obtain ⟨rfl, hr⟩ := h1
        have hk := List.forall_mem_cons.mp I.2.2.2.1
        have hk2 := List.forall_mem_cons.mp hk.2
        have hb9 : zR b := hk.1
        have ha9 : zR a := hk2.1
        have h9 := kk.same (I.stk (zOk_cons (v := iV (if a < b then b else a)) (by show zR _; split <;> assumption) hk2.2))
        refine va_mmax hx hb hml F.2.2.2.1 (F.2.2.2.2.1 _ w1) (F.2.2.2.2.1 _ zMs0) (F.2.2.2.2.1 _ zIn13) (F.2.2.2.2.1 _ zMc0) (Nat.le_trans (by omega) F.2.2.2.2.2.2.2.2.1) (by rw [zCs_sum]; have := F.2.2.2.2.2.2.2.2.2; omega) hc0 hs0 hdg ?_
        have e9 : (if Int32.ofInt a < Int32.ofInt b then Int32.ofInt b else Int32.ofInt a) = Int32.ofInt (if a < b then b else a) := by
          by_cases hab : a < b
          · rw [if_pos hab, if_pos ((z_lt ha9 hb9).mpr hab)]
          · rw [if_neg hab, if_neg (fun z => hab ((z_lt ha9 hb9).mp z))]
        rw [e9]
        exact h9
      · next b a r =>
        obtain ⟨h1, rfl, rfl, rfl, rfl⟩ := zNx_inv h
        simp only [Bool.and_eq_true, beq_iff_eq, decide_eq_true_eq] at h1
        obtain ⟨rfl, hr⟩ := h1
        have hk := List.forall_mem_cons.mp I.2.2.2.1
        have hk2 := List.forall_mem_cons.mp hk.2
        have hb9 : zR b := hk.1
        have ha9 : zR a := hk2.1
        have h9 := kk.same (I.stk (zOk_cons (v := iV (if b < a then b else a)) (by show zR _; split <;> assumption) hk2.2))
        refine va_mmin hx hb hml F.2.2.2.1 (F.2.2.2.2.1 _ w1) (F.2.2.2.2.1 _ zMs1) (F.2.2.2.2.1 _ zIn13) (F.2.2.2.2.1 _ zMc1) (Nat.le_trans (by omega) F.2.2.2.2.2.2.2.2.1) (by rw [zCs_sum]; have := F.2.2.2.2.2.2.2.2.2; omega) hc0 hs0 hdg ?_
        have e9 : (if Int32.ofInt b < Int32.ofInt a then Int32.ofInt b else Int32.ofInt a) = Int32.ofInt (if b < a then b else a) := by
          by_cases hab : b < a
          · rw [if_pos hab, if_pos ((z_lt hb9 ha9).mpr hab)]
          · rw [if_neg hab, if_neg (fun z => hab ((z_lt hb9 ha9).mp z))]
        rw [e9]
        exact h9
      · next a r =>
        obtain ⟨h1, rfl, rfl, rfl, rfl⟩ := zNx_inv h
        simp only [Bool.and_eq_true, beq_iff_eq, decide_eq_true_eq] at h1
        obtain ⟨rfl, hr⟩ := h1
        have hk := List.forall_mem_cons.mp I.2.2.2.1
        have ha9 : zR a := hk.1
        have h9 := kk.same (I.stk (zOk_cons (v := iV (if 0 ≤ a then a else (0 - Int32.ofInt a).toInt)) (by show zR _; split; assumption; exact zR_of _) hk.2))
        refine va_mabs hx hb hml F.2.2.2.1 (F.2.2.2.2.1 _ w1) (F.2.2.2.2.1 _ zMs2) (F.2.2.2.2.1 _ zIn13) (F.2.2.2.2.1 _ zMc2) (Nat.le_trans (by omega) F.2.2.2.2.2.2.2.2.1) (by rw [zCs_sum]; have := F.2.2.2.2.2.2.2.2.2; omega) hc0 hs0 hdg ?_
        have e9 : (if 0 ≤ Int32.ofInt a then Int32.ofInt a else 0 - Int32.ofInt a) = Int32.ofInt (if 0 ≤ a then a else (0 - Int32.ofInt a).toInt) := by
          by_cases hab : 0 ≤ a
          · rw [if_pos hab, if_pos ((z_0le ha9).mpr hab)]
          · rw [if_neg hab, if_neg (fun z => hab ((z_0le ha9).mp z)), z_re]
        rw [e9]
        exact h9
      · cases h
    · exact absurd h (zCallS_ne (pc := pc))
  | invokespecial k =>
    simp only [zEx] at h
    unfold zCallI at h
    split at h
    · next a r =>
      split at h
      · next ho =>
        obtain ⟨h1, rfl, rfl, rfl, rfl⟩ := zNx_inv h
        simp only [Bool.and_eq_true, beq_iff_eq, decide_eq_true_eq] at h1
        obtain ⟨rfl, hr⟩ := h1
        have hk := List.forall_mem_cons.mp I.2.2.2.1
        refine W.objInit hx hb F.2.2.2.1 (F.2.2.2.2.1 _ (zObj_ok ho)) (F.2.2.2.2.1 _ zObj_i) (F.2.2.2.2.1 _ zObj_c) rfl (by rw [F.2.2.1]; exact I.2.1.1) rfl hdg (Nat.le_trans (by omega) F.2.2.2.2.2.2.2.2.1) ?_ (kk.same (I.stk hk.2))
        have h8 := lv_room (m := mid) (pc := pc) (ls := lsR) (rest := []) (st := r.map (zE ad)) (by rw [zCs_sum]; exact hr)
        have h7 := F.2.2.2.2.2.2.2.2.2
        exact Nat.le_trans (Nat.add_le_add_right h8 12) (by omega)
      · split at h
        · split at h
          · cases h
          · cases h
        · cases h
    · cases h
  | ireturn =>
    exact absurd h zRet_ne
  | lreturn =>
    simp only [zEx] at h
    split at h
    · split at h
      · cases h
      · cases h
    · cases h
  | return_ =>
    simp only [zEx] at h
    split at h
    · split at h
      · cases h
      · cases h
    · cases h
  | areturn =>
    simp only [zEx] at h
    split at h
    · split at h
      · cases h
      · cases h
    · cases h
  | _ => simp [zEx] at h
end ZO
end
section
/-! whole runs -/
set_option maxHeartbeats 4000000 in
theorem zEx_mono {m : zD} {pc len pc' : Nat} {i : Jvm.ClassFile.Instr} {ls st ls' st' : List zV} {q q' : zS} (h : zEx m pc len i ls st q = some (.inl (pc', ls', st', q'))) : ∃ t, q'.1 = q.1 ++ t := by
  have h0 : ∀ {ok : Bool} {pc1 : Nat} {ls1 st1 : List zV} {q1 : zS}, zNx ok pc1 ls1 st1 q1 = some (.inl (pc', ls', st', q')) → q1 = q' := fun h => (zNx_inv h).2.2.2.2
  cases i <;> simp only [zEx, zBin, zLdI, zLdL, zLdA, zStI, zStL, zStA, zGetF, zPutF, zALd, zRLd, zASt, zRSt, zALen, zNewO, zNewA, zNewM, zMathS, zCallI, zJp, zCallV, zCallS, zRet] at h <;> (repeat' split at h) <;>
    first
    | (cases h; done)
    | (have h1 := h0 h; subst h1; exact ⟨[], (List.append_nil _).symm⟩)
    | (have h1 := h0 h; subst h1; exact ⟨_, rfl⟩)
    | (have h1 := h0 h; subst h1; exact ⟨_, List.append_assoc _ _ _⟩)
theorem zRun_mono : ∀ (n d : Nat) (m : zD) (pc : Nat) (ls st : List zV) (q : zS) (r : Option zV) (q' : zS), zRun n d m pc ls st q = some (r, q') → ∃ t, q'.1 = q.1 ++ t := by
  intro n
  induction n with
  | zero => intro d m pc ls st q r q' h; simp [zRun] at h
  | succ n ih =>
    intro d m pc ls st q r q' h
    simp only [zRun] at h
    split at h
    · split at h
      · next pc1 ls1 st1 q1 hx =>
        obtain ⟨t1, e1⟩ := zEx_mono hx
        obtain ⟨t2, e2⟩ := ih _ _ _ _ _ _ _ _ h
        exact ⟨t1 ++ t2, by rw [e2, e1, List.append_assoc]⟩
      · split at h
        · cases h
        · split at h
          · next r1 q1 hr =>
            obtain ⟨t1, e1⟩ := ih _ _ _ _ _ _ _ _ hr
            obtain ⟨t2, e2⟩ := ih _ _ _ _ _ _ _ _ h
            exact ⟨t1 ++ t2, by rw [e2, e1, List.append_assoc]⟩
          · cases h
      · cases h
        exact ⟨[], (List.append_nil _).symm⟩
      · cases h
    · cases h
theorem z_grow {q q' : zS} (h : ∃ t, q'.1 = q.1 ++ t) : q.1.length ≤ q'.1.length ∧ zSz q ≤ zSz q' := by
  obtain ⟨t, e⟩ := h
  unfold zSz
  rw [e]
  simp
/-- what a call is -/
theorem zEx_call {m m' : zD} {pc len : Nat} {i : Jvm.ClassFile.Instr} {ls st as rest : List zV} {q : zS} (h : zEx m pc len i ls st q = some (.inr (.inl (m', as, rest)))) :
    len = 3 ∧ zCs rest ≤ 8 ∧ (zSl as).length ≤ m'.2.2.2.1 ∧
    ((∃ (k np a : Nat), i = .invokevirtual k ∧ zCall m.1 k = some (0, np, m') ∧ as = rV a :: (st.take np).reverse ∧ st = st.take np ++ rV a :: rest ∧ np ≤ st.length ∧ q.1[a]?.map Prod.fst = some m'.1) ∨
     (∃ (k np : Nat), i = .invokestatic k ∧ zCall m.1 k = some (1, np, m') ∧ as = (st.take np).reverse ∧ st = st.take np ++ rest ∧ np ≤ st.length) ∨
     (∃ (k kd a : Nat), i = .invokespecial k ∧ zCall m.1 k = some (kd, 0, m') ∧ (kd = 2 ∨ kd = 3) ∧ as = [rV a] ∧ st = rV a :: rest)) := by
  have h0 : ∀ {ok : Bool} {pc1 : Nat} {ls1 st1 : List zV} {q1 : zS} {x : (zD × List zV × List zV) ⊕ Option zV}, zNx ok pc1 ls1 st1 q1 ≠ some (.inr x) := by
    intro ok pc1 ls1 st1 q1 x h
    unfold zNx at h
    split at h <;> cases h
  cases i with
  | invokevirtual k =>
    simp only [zEx, zCallV] at h
    split at h
    · next kd np m1 hf =>
      split at h
      · next a rest1 hd =>
        split at h
        · next hc =>
          cases h
          obtain ⟨rfl, hl, hr, hq, hs⟩ := hc
          have hlen : np ≤ st.length := by
            rcases Nat.lt_or_ge st.length np with z | z
            · rw [List.drop_eq_nil_of_le (by omega)] at hd; cases hd
            · exact z
          exact ⟨hl, hr, hs, Or.inl ⟨k, np, a, rfl, hf, rfl, by rw [← hd, List.take_append_drop], hlen, hq⟩⟩
        · cases h
      · cases h
    · cases h
  | invokestatic k =>
    simp only [zEx] at h
    split at h
    · simp only [zMathS] at h
      split at h <;> first | exact absurd h h0 | cases h
    · simp only [zCallS] at h
      split at h
      · next kd np m1 hf =>
        split at h
        · next hc =>
          cases h
          obtain ⟨rfl, hl, hr, hlen, hs⟩ := hc
          exact ⟨hl, hr, hs, Or.inr (Or.inl ⟨k, np, rfl, hf, rfl, by rw [List.take_append_drop], hlen⟩)⟩
        · cases h
      · cases h
  | invokespecial k =>
    simp only [zEx, zCallI] at h
    split at h
    · next a r =>
      split at h
      · exact absurd h h0
      · split at h
        · next kd np m1 hf =>
          split at h
          · next hc =>
            cases h
            obtain ⟨hkd, rfl, hl, hr, hm⟩ := hc
            exact ⟨hl, hr, by simpa [zSl, zCat] using hm, Or.inr (Or.inr ⟨k, kd, a, rfl, hf, hkd, rfl, rfl⟩)⟩
          · cases h
        · cases h
    · cases h
  | _ =>
    exfalso
    simp only [zEx, zBin, zLdI, zLdL, zLdA, zStI, zStL, zStA, zGetF, zPutF, zALd, zRLd, zASt, zRSt, zALen, zNewO, zNewA, zNewM, zJp, zRet] at h
    try (repeat' split at h)
    all_goals first | exact absurd h h0 | cases h
def zRetAt (m : zD) (pc : Nat) (r : Option zV) : Prop := match r with
  | some (.inl a) => decode m.2.2.1 pc = .ok (.ireturn, 1) ∧ (m.2.2.2.2 = some .int ∨ m.2.2.2.2 = some .boolean ∧ (a = 0 ∨ a = 1))
  | some (.inr (.inl _)) => decode m.2.2.1 pc = .ok (.lreturn, 1) ∧ m.2.2.2.2 = some .long
  | some (.inr (.inr (.inl _))) => decode m.2.2.1 pc = .ok (.areturn, 1) ∧ ∃ n, m.2.2.2.2 = some (.object n)
  | some (.inr (.inr (.inr _))) => False
  | none => decode m.2.2.1 pc = .ok (.return_, 1) ∧ m.2.2.2.2 = none
theorem zEx_ret {m : zD} {pc len : Nat} {i : Jvm.ClassFile.Instr} {ls st : List zV} {q : zS} {r : Option zV} (hdg : decode m.2.2.1 pc = .ok (i, len)) (h : zEx m pc len i ls st q = some (.inr (.inr r))) : zRetAt m pc r ∧ st = r.toList := by
  have h0 : ∀ {ok : Bool} {pc1 : Nat} {ls1 st1 : List zV} {q1 : zS} {x : (zD × List zV × List zV) ⊕ Option zV}, zNx ok pc1 ls1 st1 q1 ≠ some (.inr x) := by
    intro ok pc1 ls1 st1 q1 x h
    unfold zNx at h
    split at h <;> cases h
  cases i with
  | ireturn =>
    simp only [zEx, zRet] at h
    split at h
    · split at h
      · next hc =>
        cases h
        obtain ⟨rfl, hc⟩ := hc
        exact ⟨⟨hdg, hc⟩, rfl⟩
      · cases h
    · cases h
  | lreturn =>
    simp only [zEx] at h
    split at h
    · split at h
      · next hc =>
        cases h
        obtain ⟨rfl, hc⟩ := hc
        exact ⟨⟨hdg, hc⟩, rfl⟩
      · cases h
    · cases h
  | areturn =>
    simp only [zEx] at h
    split at h
    · next hret =>
      split at h
      · next hc =>
        cases h
        subst hc
        exact ⟨⟨hdg, _, hret⟩, rfl⟩
      · cases h
    · cases h
  | return_ =>
    simp only [zEx] at h
    split at h
    · split at h
      · next hc =>
        cases h
        obtain ⟨rfl, hc⟩ := hc
        exact ⟨⟨hdg, hc⟩, rfl⟩
      · cases h
    · cases h
  | _ =>
    exfalso
    simp only [zEx, zBin, zLdI, zLdL, zLdA, zStI, zStL, zStA, zGetF, zPutF, zALd, zRLd, zASt, zRSt, zALen, zNewO, zNewA, zNewM, zMathS, zCallI, zCallV, zCallS, zJp] at h
    try (repeat' split at h)
    all_goals first | exact absurd h h0 | cases h
end
section
/-! a run of the small machine is a run of the machine -/
section ZW
variable {D : va_G} {cA : Nat → ClassId} {ad : Nat → Nat} {base : Nat}
theorem zRel.moved {q : zS} {u U : State} {H : Heap} (hvm : u.vm.Alike U.vm) (h : zRel D cA ad base q u H) : zRel D cA ad base q U H :=
  ⟨h.1, h.2.1, h.2.2.1, fun a n ha he => zX_moved hvm (h.2.2.2.1 a n ha he), h.2.2.2.2⟩
theorem zNw_warm {s U : State} (hW : s.WarmedH U.vm) (h : ∀ w ∈ zNW, va_Nw w s) : ∀ w ∈ zNW, va_Nw w U := by
  intro w hw
  have h1 := h w hw
  simp only [zNW, List.mem_cons, List.not_mem_nil, or_false] at hw
  rcases hw with rfl | rfl | rfl | rfl | rfl | rfl | rfl | rfl | rfl | rfl | rfl | rfl | rfl <;> first | exact va_Nw.warmM hW h1 | exact va_Nw.warmF hW h1
theorem zNw_same {s U : State} (hv : s.vm = U.vm) (h : ∀ w ∈ zNW, va_Nw w s) : ∀ w ∈ zNW, va_Nw w U := by
  intro w hw
  have h1 := h w hw
  simp only [zNW, List.mem_cons, List.not_mem_nil, or_false] at hw
  rcases hw with rfl | rfl | rfl | rfl | rfl | rfl | rfl | rfl | rfl | rfl | rfl | rfl | rfl <;> exact va_Nw.same rfl hv h1
theorem zEnv.warm {s U : State} {H : Heap} {locs : List Loc} (E : zEnv D cA ad base s) (hS : va_S (zA base) s.heap H locs) (hU : U.heap = H) (hW : s.WarmedH U.vm) : zEnv D cA ad base U := by
  obtain ⟨h1, h2, h3, h4, h5, h6, h7, h8⟩ := E
  refine ⟨h1, h2.moved hW.alike, zNw_warm hW h3, h4.moved hW.alike, h5.moved hW.alike, over_moved hW.alike h6, fun a ha => ?_, by rw [hU]; exact Nat.le_trans h8 hS.1⟩
  have h9 := (h7 a ha).kept (H1 := H) (fun x hx hx2 => hS.2.1 x hx hx2)
  rw [hU]
  exact h9.moved hW.alike
theorem zEnv.same {s U : State} (E : zEnv D cA ad base s) (hv : s.vm = U.vm) (hh : U.heap = s.heap) : zEnv D cA ad base U := by
  obtain ⟨h1, h2, h3, h4, h5, h6, h7, h8⟩ := E
  have ha : s.vm.Alike U.vm := by rw [← hv]; exact Vm.Alike.refl _
  refine ⟨h1, h2.moved ha, zNw_same hv h3, h4.moved ha, h5.moved ha, over_moved ha h6, fun a h9 => ?_, by rw [hh]; exact h8⟩
  rw [hh]
  exact (h7 a h9).moved ha
def zPc (D : va_G) (cA : Nat → ClassId) (ad : Nat → Nat) (base : Nat) (as : List zV) (q : zS) : Array Value → State → Prop := fun a U => a = (as.map (zE ad)).toArray ∧ zRel D cA ad base q U U.heap ∧ zEnv D cA ad base U
def zQc (D : va_G) (cA : Nat → ClassId) (ad : Nat → Nat) (base : Nat) (r : Option zV) (q : zS) : Array Value → State → Outcome → State → Prop := fun _ st o t => o = .returned (r.map (zE ad)) ∧ (∀ v ∈ r.toList, zOk v) ∧ zRel D cA ad base q t t.heap ∧ va_F (zA base) st t
theorem zPc_blind {as : List zV} {q : zS} : FrameBlind (zPc D cA ad base as q) := fun a U g mk h => ⟨h.1, h.2.1.moved (u := U) (U := U.calling g mk a) (Vm.Alike.refl U.vm), h.2.2.same (U := U.calling g mk a) rfl rfl⟩
theorem zPc_at {s U : State} {H : Heap} {locs : List Loc} {as : List zV} {q : zS} (E : zEnv D cA ad base s) (hR : zRel D cA ad base q s H) (hS : va_S (zA base) s.heap H locs) (hU : U.heap = H) (hW : s.WarmedH U.vm) : zPc D cA ad base as q (as.map (zE ad)).toArray U :=
  ⟨rfl, by rw [hU]; exact hR.moved hW.alike, E.warm hS hU hW⟩
/-- the locals at the entry -/
theorem zSl_map (as : List zV) : (lg_sl (as.map (zE ad))).length = (zSl as).length := by
  induction as with
  | nil => rfl
  | cons v t ih =>
    have e1 : lg_sl ((v :: t).map (zE ad)) = (if (zE ad v).category = 2 then [Slot.val (zE ad v), .second] else [Slot.val (zE ad v)]) ++ lg_sl (t.map (zE ad)) := by simp [lg_sl]
    have e2 : zSl (v :: t) = (if zCat v = 2 then [v, uV] else [v]) ++ zSl t := by simp [zSl]
    rw [e1, e2, List.length_append, List.length_append, ih, zE_cat]
    split <;> rfl
theorem zSl_args : ∀ (as : List zV) (i k : Nat) (v : zV), (zSl as)[k]? = some v → v ≠ uV → (i + k, zE ad v) ∈ lv_args i (as.map (zE ad)) := by
  intro as
  induction as with
  | nil => intro i k v h; simp [zSl] at h
  | cons w t ih =>
    intro i k v h hv
    have e2 : zSl (w :: t) = (if zCat w = 2 then [w, uV] else [w]) ++ zSl t := by simp [zSl]
    rw [e2] at h
    simp only [List.map_cons, lv_args, zE_cat]
    by_cases hc : zCat w = 2
    · rw [if_pos hc] at h ⊢
      match k, h with
      | 0, h =>
        cases h
        exact List.mem_cons_self
      | 1, h =>
        cases h
        exact absurd rfl hv
      | k + 2, h =>
        have h' : (zSl t)[k]? = some v := h
        have := ih (i + 2) k v h' hv
        rw [show i + (k + 2) = i + 2 + k by omega]
        exact List.mem_cons_of_mem _ this
    · rw [if_neg hc] at h ⊢
      match k, h with
      | 0, h =>
        cases h
        exact List.mem_cons_self
      | k + 1, h =>
        have h' : (zSl t)[k]? = some v := h
        have := ih (i + 1) k v h' hv
        rw [show i + (k + 1) = i + 1 + k by omega]
        exact List.mem_cons_of_mem _ this
theorem zEnt_LR {as : List zV} {nL : Nat} (h : (zSl as).length ≤ nL) : zLR ad nL (zEnt nL as) ((lg_sl (as.map (zE ad)) ++ List.replicate (nL - (lg_sl (as.map (zE ad))).length) Slot.unset).toArray) := by
  have h1 := lv_entry (as.map (zE ad)) (n := nL) (by rw [zSl_map]; exact h)
  refine ⟨h1.1, by simp [zEnt]; omega, h1.2.1, fun k v hk hv => ?_⟩
  unfold zEnt at hk
  by_cases hl : k < (zSl as).length
  · rw [List.getElem?_append_left hl] at hk
    have := zSl_args (ad := ad) as 0 k v hk hv
    rw [Nat.zero_add] at this
    exact h1.2.2 _ this
  · rw [List.getElem?_append_right (by omega)] at hk
    have := List.mem_of_getElem? hk
    rw [(List.mem_replicate.mp this).2] at hv
    exact absurd rfl hv
theorem zEnt_ok {as : List zV} {nL : Nat} (h : ∀ v ∈ as, zOk v) : ∀ v ∈ zEnt nL as, zOk v := by
  intro v hv
  rcases List.mem_append.mp hv with h1 | h1
  · obtain ⟨w, hw, h2⟩ := List.mem_flatMap.mp h1
    split at h2
    · rcases List.mem_cons.mp h2 with rfl | h3
      · exact h _ hw
      · rw [List.mem_singleton.mp h3]; trivial
    · rw [List.mem_singleton.mp h2]; exact h _ hw
  · rw [(List.mem_replicate.mp h1).2]; trivial
def zRm (d mc ms : Nat) : Room := { frames := d + 1, cells := mc, slots := ms, locals := 42 * (d + 1) }
/-- what is behind a call -/
theorem zs_call {p : Program} {l : Launch} {e : Env} {R : Room} {s : State} {mid : MethodId} {args a : Array Value} {below : List Frame} {meth : Method} {c : Code} {H : Heap} {locs : List Loc} {cells slots mc ms pc : Nat} {Q : State → Prop} {lsR : Array Slot} {st0 rest : List Value} {r : Option zV} {q1 : zS}
    (hr : va_Run p l e R s mid args below meth c H locs cells slots mc ms (F0 mid pc lsR st0) rest (zQc D cA ad base r q1 a) (zA base)) (hS : va_S (zA base) s.heap H locs)
    (kk : ∀ (H1 : Heap) (locs1 : List Loc), (∀ v ∈ r.toList, zOk v) → zRel D cA ad base q1 s H1 → va_S (zA base) s.heap H1 locs1 → W p l e R s mid args below meth c H1 locs1 (cells + mc) (slots + ms) Q (F0 mid (pc + 3) lsR (r.toList.map (zE ad) ++ rest))) : W p l e R s mid args below meth c H locs cells slots Q (F0 mid pc lsR st0) := by
  intro T hT X
  obtain ⟨v, st₀, t, T', L, h0, X', hL, e1, e2, ⟨hv, hokr, hRel, hz, hk⟩, st⟩ := hr T hT X
  cases hv
  rw [h0] at hz hk
  have hal : s.vm.Alike t.vm := by rw [← e2]; exact X'.warmed.alike
  obtain ⟨t2, a1, b1⟩ := kk T'.heap (locs ++ L) hokr (by rw [e1]; exact hRel.moved hal.symm) ⟨Nat.le_trans hS.1 (by rw [e1]; exact hz), fun q h1 h2 => by rw [e1, hk q (Nat.lt_of_lt_of_le h1 hS.1) h2]; exact hS.2.1 q h1 h2, fun q hq => by
      rcases List.mem_append.mp hq with h | h
      · exact hS.2.2 q h
      · exact hL q h⟩ T' rfl X'
  refine ⟨t2, st t2 ?_, b1⟩
  have e9 : (r.map (zE ad)).toList ++ rest = r.toList.map (zE ad) ++ rest := by cases r <;> rfl
  rw [e9]
  exact a1
def zSimP (D : va_G) (cA : Nat → ClassId) (ad : Nat → Nat) (base n : Nat) : Prop := ∀ (d : Nat) (m : zD) (pc : Nat) (ls st : List zV) (q : zS) (r : Option zV) (q' : zS), zRun n d m pc ls st q = some (r, q') →
    ∀ {p : Program} {l : Launch} {e : Env} {R : Room} {s : State} {mid : MethodId} {args : Array Value} {below : List Frame} {meth : Method} {c : Code} {Q : State → Prop}, zFx p R s mid args meth c m d → zEnv D cA ad base s → ∀ (H : Heap) (locs : List Loc) (cells slots : Nat) (lsR : Array Slot), zIn D cA ad base s m ls st q H locs lsR →
    cells + (q'.1.length - q.1.length) ≤ R.cells → slots + (zSz q' - zSz q) ≤ R.slots →
    (∀ (H' : Heap) (locs' : List Loc) (pc' : Nat) (lsR' : Array Slot), zRel D cA ad base q' s H' → va_S (zA base) s.heap H' locs' → zRetAt m pc' r → (∀ v ∈ r.toList, zOk v) → W p l e R s mid args below meth c H' locs' (cells + (q'.1.length - q.1.length)) (slots + (zSz q' - zSz q)) Q (F0 mid pc' lsR' (r.toList.map (zE ad)))) →
    W p l e R s mid args below meth c H locs cells slots Q (F0 mid pc lsR (st.map (zE ad)))
set_option maxHeartbeats 4000000 in
theorem zCallStep {n d1 pc len : Nat} {m m1 : zD} {i : Jvm.ClassFile.Instr} {ls st as rest : List zV} {q q1 : zS} {r1 : Option zV} (ih : zSimP D cA ad base n) (hr1 : zRun n d1 m1 0 (zEnt m1.2.2.2.1 as) [] q = some (r1, q1))
    {p : Program} {l : Launch} {e : Env} {R : Room} {s : State} {mid : MethodId} {args : Array Value} {below : List Frame} {meth : Method} {c : Code} {Q : State → Prop} (F : zFx p R s mid args meth c m (d1 + 1)) (E : zEnv D cA ad base s) {H : Heap} {locs : List Loc} {cells slots : Nat} {lsR : Array Slot} (I : zIn D cA ad base s m ls st q H locs lsR)
    (hdg : decode m.2.2.1 pc = .ok (i, len)) (hx : zEx m pc len i ls st q = some (.inr (.inl (m1, as, rest)))) (hc1 : cells + (q1.1.length - q.1.length) ≤ R.cells) (hs1 : slots + (zSz q1 - zSz q) ≤ R.slots)
    (hgo0 : ∀ (H1 : Heap) (locs1 : List Loc), zIn D cA ad base s m ls (r1.toList ++ rest) q1 H1 locs1 lsR → W p l e R s mid args below meth c H1 locs1 (cells + (q1.1.length - q.1.length)) (slots + (zSz q1 - zSz q)) Q (F0 mid (pc + 3) lsR ((r1.toList ++ rest).map (zE ad)))) :
    W p l e R s mid args below meth c H locs cells slots Q (F0 mid pc lsR (st.map (zE ad))) := by
  obtain ⟨rfl, hcs, hsl, hcall⟩ := zEx_call hx
  have hokr : ∀ v ∈ as, zOk v := by
    rcases hcall with ⟨k, np, a, -, -, rfl, hst, -⟩ | ⟨k, np, -, -, rfl, hst, -⟩ | ⟨k, kd, a, -, -, -, rfl, hst⟩
    · refine zOk_cons trivial fun v hv => I.2.2.2.1 v ?_
      exact List.mem_of_mem_take (List.mem_reverse.mp hv)
    · exact fun v hv => I.2.2.2.1 v (List.mem_of_mem_take (List.mem_reverse.mp hv))
    · exact zOk_cons trivial (fun v hv => absurd hv List.not_mem_nil)
  have hrest : ∀ v ∈ rest, zOk v := by
    rcases hcall with ⟨k, np, a, -, -, -, hst, -⟩ | ⟨k, np, -, -, -, hst, -⟩ | ⟨k, kd, a, -, -, -, -, hst⟩
    · exact fun v hv => I.2.2.2.1 v (by rw [hst]; exact List.mem_append_right _ (List.mem_cons_of_mem _ hv))
    · exact fun v hv => I.2.2.2.1 v (by rw [hst]; exact List.mem_append_right _ hv)
    · exact fun v hv => I.2.2.2.1 v (by rw [hst]; exact List.mem_cons_of_mem _ hv)
  have hok : ∃ np, zMok m1 np := by
    rcases hcall with ⟨k, np, a, -, hz, -⟩ | ⟨k, np, -, hz, -⟩ | ⟨k, kd, a, -, hz, -⟩
    · exact ⟨_, (zCall_ok hz).1⟩
    · exact ⟨_, (zCall_ok hz).1⟩
    · exact ⟨_, (zCall_ok hz).1⟩
  obtain ⟨np0, hmok⟩ := hok
  have hM : Met l m1.2.1 (zWs m1) (zRm d1 (q1.1.length - q.1.length) (zSz q1 - zSz q)) (zPc D cA ad base as q) (zQc D cA ad base r1 q1) (q1.1.length - q.1.length) (zSz q1 - zSz q) (zA base) := by
    refine Met.ofW (cc := m1.2.2.1) (maxL := m1.2.2.2.1) (ret := m1.2.2.2.2) hmok.2.2.2.2.2.1 rfl ?_
    intro p e s m args below meth c s₁ B hml hv
    obtain ⟨rfl, hRel, hEnv⟩ := hv
    have hts0 := atoms_spec (ws := zWs m1) B.pre
    have hF : zFx p (headSpec (zWs m1) (zRm d1 (q1.1.length - q.1.length) (zSz q1 - zSz q))).room s m (as.map (zE ad)).toArray meth c m1 d1 :=
      ⟨B.exec, B.bytes, hml, by rw [← hmok.2.2.1]; exact findClass_of_methodNamed B.named, fun w hw => hts0 w (List.mem_cons_of_mem _ hw), B.returns, B.notSynchronized, fun e9 => (name_of_methodNamed B.named B.method).1.trans e9, Nat.le_refl _, Nat.le_refl _⟩
    rw [lg_entry_eq]
    refine ih _ _ _ _ _ _ _ _ hr1 hF hEnv s.heap [] 0 0 _ ⟨hRel, zEnt_LR hsl, zEnt_ok hokr, fun v hv => absurd hv List.not_mem_nil, va_S.rf⟩ (by rw [Nat.zero_add]; exact Nat.le_refl _) (by rw [Nat.zero_add]; exact Nat.le_refl _) fun H' locs' pc' lsR' k1 k2 k3 k4 => ?_
    rw [Nat.zero_add, Nat.zero_add]
    have hq : ∀ t : State, t.heap = H' → s.WarmedH t.vm → zQc D cA ad base r1 q1 (as.map (zE ad)).toArray s (.returned (r1.map (zE ad))) t := fun t ht hW => ⟨rfl, k4, by rw [ht]; exact k1.moved hW.alike, k2.F ht⟩
    have hlocks := B.notSynchronized
    match r1, k3, k4, hq with
    | some (.inl a), k3, k4, hq =>
      have ha : zR a := k4 _ List.mem_cons_self
      rcases k3.2 with hret | ⟨hret, ha01⟩
      · exact W.iret B.exec B.bytes (B.returns.trans hret) hq k2.2.2 k3.1
      · exact W.zret (ty := .boolean) B.exec B.bytes (B.returns.trans hret) (by rcases ha01 with rfl | rfl <;> decide +kernel) hq k2.2.2 k3.1
    | some (.inr (.inl x)), k3, k4, hq => exact W.lret B.exec B.bytes (B.returns.trans k3.2) hq k2.2.2 k3.1
    | some (.inr (.inr (.inl a))), k3, k4, hq =>
      obtain ⟨k31, nn, k32⟩ := k3
      exact W.aret (rt := .object nn) B.exec B.bytes (B.returns.trans k32) (Or.inl ⟨_, rfl⟩) (Or.inr ⟨_, rfl⟩) hq k2.2.2 k31
    | some (.inr (.inr (.inr _))), k3, k4, hq => exact absurd k3 (fun z => z)
    | none, k3, k4, hq => exact W.vret B.exec B.bytes (B.returns.trans k3.2) hq k2.2.2 k3.1
  have hgo : ∀ (H1 : Heap) (locs1 : List Loc), (∀ v ∈ r1.toList, zOk v) → zRel D cA ad base q1 s H1 → va_S (zA base) s.heap H1 locs1 → W p l e R s mid args below meth c H1 locs1 (cells + (q1.1.length - q.1.length)) (slots + (zSz q1 - zSz q)) Q (F0 mid (pc + 3) lsR (r1.toList.map (zE ad) ++ rest.map (zE ad))) := fun H1 locs1 hokr1 k1 k2 => by
    rw [← List.map_append]
    exact hgo0 H1 locs1 ⟨k1, I.2.1, I.2.2.1, fun v hv => (List.mem_append.mp hv).elim (hokr1 v) (hrest v), k2⟩
  have hR1 : (zRm d1 (q1.1.length - q.1.length) (zSz q1 - zSz q)).frames + 1 ≤ R.frames := F.2.2.2.2.2.2.2.2.1
  have hR2 : 8 + (m1.2.2.2.1 + 11) + (zRm d1 (q1.1.length - q.1.length) (zSz q1 - zSz q)).locals ≤ R.locals := by
    have h7 := F.2.2.2.2.2.2.2.2.2
    have h8 := hmok.2.2.2.2.2.2
    show 8 + (m1.2.2.2.1 + 11) + 42 * (d1 + 1) ≤ R.locals
    omega
  have hroom : ∀ st9 : List Value, 2 * (F0 mid pc lsR st9).monitorRoom + ((rest.map (zE ad)).map fun v => v.category).sum ≤ 8 := fun st9 => lv_room (by rw [zCs_sum]; exact hcs)
  have hts := F.2.2.2.2.1
  have hws : ∀ w ∈ zWs m1, ∀ (a' : Array Value) (U : State), s.WarmedH U.vm → w.before a' U = true := fun w hw a' U hW => by
    have hw' : w ∈ zGW := by
      rcases List.mem_cons.mp hw with rfl | h9
      · exact hmok.1
      · exact h9
    exact word_at hW (zGW_good w hw') (hts w hw')
  have hfix : CallFix p mid c m.2.2.1 m.2.2.2.1 s args zGW (zCn m.1) := ⟨F.1, F.2.1, F.2.2.1, F.2.2.2.1, hts⟩
  have hpl : ∀ np1, zMok m1 np1 → ∀ sig, parseMethodDescriptor m1.2.1.desc = some sig → np1 = sig.parameters.length := fun np1 h1 sig h2 => by
    have h3 := h1.2.2.2.1
    rw [h2] at h3
    exact (Option.some.inj h3).symm
  rcases hcall with ⟨k, np, a, rfl, hz, rfl, hst, hlen, hq⟩ | ⟨k, np, rfl, hz, rfl, hst, hlen⟩ | ⟨k, kd, a, rfl, hz, hkd, rfl, hst⟩
  · obtain ⟨hm1, hk0, -⟩ := zCall_ok hz
    obtain ⟨w1, w2, w3, h11⟩ := hk0 rfl
    obtain ⟨sz, -, -, cellV, g1, g2, g3, -⟩ := zs_kind I.1 hq h11
    have hp : PreV s H m1.2.1.cls (ad a) (zPc D cA ad base (rV a :: (st.take np).reverse) q) (((st.take np).reverse).map (zE ad)) :=
      ⟨zPc_blind, ⟨cellV, g1, by rw [g3]; rfl, by rw [g2, hm1.2.2.1]; exact (E.2.1.1 m1.1 _ (zCls_at h11)).2.1⟩, fun U hU hW => zPc_at E I.1 I.2.2.2.2 hU hW⟩
    have hstk : st.map (zE ad) = (((st.take np).reverse).map (zE ad)).reverse ++ .ref (ad a) :: rest.map (zE ad) := by
      rw [← List.map_reverse, List.reverse_reverse]
      conv => lhs; rw [hst]
      rw [List.map_append]
      rfl
    exact zs_call (va_runV (n := np) hfix hM ⟨⟨rfl, rfl, hR1, hR2, hws, List.mem_cons_self, hts _ hm1.1, hts _ hm1.2.1, hm1.2.2.2.2.1, hpl _ hm1, hts _ w1⟩, hts _ w2, hts _ w3⟩ hp rfl (by rw [List.length_map, List.length_reverse, List.length_take]; omega) I.2.1.1 hstk (hroom _) hdg ⟨hc1, hs1⟩) I.2.2.2.2 hgo
  · obtain ⟨hm1, -, hk1, -⟩ := zCall_ok hz
    obtain ⟨w1, w2⟩ := hk1 rfl
    have hp : PreS s H (zPc D cA ad base ((st.take np).reverse) q) (((st.take np).reverse).map (zE ad)) := ⟨zPc_blind, fun U hU hW => zPc_at E I.1 I.2.2.2.2 hU hW⟩
    have hstk : st.map (zE ad) = (((st.take np).reverse).map (zE ad)).reverse ++ rest.map (zE ad) := by
      rw [← List.map_reverse, List.reverse_reverse]
      conv => lhs; rw [hst]
      rw [List.map_append]
    exact zs_call (va_runS (n := np) hfix hM ⟨⟨rfl, rfl, hR1, hR2, hws, List.mem_cons_self, hts _ hm1.1, hts _ hm1.2.1, hm1.2.2.2.2.1, hpl _ hm1, hts _ w1⟩, hts _ w2⟩ hp rfl (by rw [List.length_map, List.length_reverse, List.length_take]; omega) I.2.1.1 hstk (hroom _) hdg ⟨hc1, hs1⟩) I.2.2.2.2 hgo
  · obtain ⟨hm1, -, -, hk2, hk3⟩ := zCall_ok hz
    have hp : PreS s H (zPc D cA ad base [rV a] q) (.ref (ad a) :: []) := ⟨zPc_blind, fun U hU hW => zPc_at E I.1 I.2.2.2.2 hU hW⟩
    have hstk : st.map (zE ad) = ([] : List Value).reverse ++ .ref (ad a) :: rest.map (zE ad) := by rw [hst]; rfl
    rcases hkd with rfl | rfl
    · obtain ⟨w1, w2, w3, w4⟩ := hk2 rfl
      have hcd : Cond.code m1.2.1 m1.2.2.1 m1.2.2.2.1 none = Cond.code m1.2.1 m1.2.2.1 m1.2.2.2.1 m1.2.2.2.2 := by rw [show m1.2.2.2.2 = none from w4]
      exact zs_call (va_runI (n := 0) (As := []) hfix hM ⟨⟨rfl, rfl, hR1, hR2, hws, by rw [hcd]; exact List.mem_cons_self, by rw [hcd]; exact hts _ hm1.1, hts _ hm1.2.1, hm1.2.2.2.2.1, hpl _ hm1, hts _ w1⟩, w3, hts _ w2⟩ hp rfl rfl I.2.1.1 hstk (hroom _) hdg ⟨hc1, hs1⟩) I.2.2.2.2 hgo
    · obtain ⟨w1, w2, w3, w4⟩ := hk3 rfl
      have hcd : Cond.code m1.2.1 m1.2.2.1 m1.2.2.2.1 none = Cond.code m1.2.1 m1.2.2.1 m1.2.2.2.1 m1.2.2.2.2 := by rw [show m1.2.2.2.2 = none from w4]
      exact zs_call (va_runIN (n := 0) (As := []) (host := "StopPress") hfix hM ⟨⟨⟨rfl, rfl, hR1, hR2, hws, by rw [hcd]; exact List.mem_cons_self⟩, by rw [hcd]; exact hts _ hm1.1, hts _ hm1.2.1, hm1.2.2.2.2.1, hpl _ hm1, va_Nw.use rfl (E.2.2.1 _ w1)⟩, w3, hts _ w2⟩ hp rfl rfl I.2.1.1 hstk (hroom _) hdg ⟨hc1, hs1⟩) I.2.2.2.2 hgo
set_option maxHeartbeats 4000000 in
theorem zSim : ∀ n : Nat, zSimP D cA ad base n := by
  intro n
  induction n with
  | zero => intro d m pc ls st q r q' h; simp [zRun] at h
  | succ n ih =>
    intro d m pc ls st q r q' h p l e R s mid args below meth c Q F E H locs cells slots lsR I hc hs kk
    have hg := z_grow (zRun_mono _ _ _ _ _ _ _ _ _ h)
    simp only [zRun] at h
    split at h
    · next i len hdg =>
      split at h
      · next pc1 ls1 st1 q1 hx =>
        have g1 := z_grow (zEx_mono hx)
        have g2 := z_grow (zRun_mono _ _ _ _ _ _ _ _ _ h)
        refine zS1 F E hdg hx I (by omega) (by omega) (by omega) (by omega) fun H1 locs1 lsR1 I1 => ?_
        refine ih _ _ _ _ _ _ _ _ h F E H1 locs1 _ _ lsR1 I1 (by omega) (by omega) fun H2 locs2 pc2 lsR2 k1 k2 k3 k4 => ?_
        have := kk H2 locs2 pc2 lsR2 k1 k2 k3 k4
        rw [show cells + (q1.1.length - q.1.length) + (q'.1.length - q1.1.length) = cells + (q'.1.length - q.1.length) by omega, show slots + (zSz q1 - zSz q) + (zSz q' - zSz q1) = slots + (zSz q' - zSz q) by omega]
        exact this
      · next m1 as rest hx =>
        split at h
        · cases h
        · next d1 =>
          split at h
          · next r1 q1 hr1 =>
            have g1 := z_grow (zRun_mono _ _ _ _ _ _ _ _ _ hr1)
            have g2 := z_grow (zRun_mono _ _ _ _ _ _ _ _ _ h)
            have hce : cells + (q1.1.length - q.1.length) + (q'.1.length - q1.1.length) = cells + (q'.1.length - q.1.length) := by omega
            have hse : slots + (zSz q1 - zSz q) + (zSz q' - zSz q1) = slots + (zSz q' - zSz q) := by omega
            refine zCallStep ih hr1 F E I hdg hx (by omega) (by omega) fun H1 locs1 I1 => ?_
            refine ih _ _ _ _ _ _ _ _ h F E H1 locs1 _ _ lsR I1 (by rw [hce]; exact hc) (by rw [hse]; exact hs) fun H2 locs2 pc2 lsR2 k1 k2 k3 k4 => ?_
            have := kk H2 locs2 pc2 lsR2 k1 k2 k3 k4
            rw [hce, hse]
            exact this
          · cases h
      · next r1 hx =>
        cases h
        obtain ⟨k3, hst⟩ := zEx_ret hdg hx
        have := kk H locs pc lsR I.1 I.2.2.2.2 k3 (by rw [← hst]; exact I.2.2.2.1)
        rw [Nat.sub_self, Nat.sub_self, Nat.add_zero, Nat.add_zero, ← hst] at this
        exact this
      · cases h
    · cases h
end ZW
end
section
/-! the start: the constructors, run by the kernel -/
def zGo : Nat → Nat → Nat → zD → Nat → List zV → List zV → zS → Option (Nat × List zV × List zV × zS)
  | 0, _, _, _, pc, ls, st, q => some (pc, ls, st, q)
  | k + 1, n, d, m, pc, ls, st, q => match decode m.2.2.1 pc with
    | .ok (i, len) => match zEx m pc len i ls st q with
      | some (.inl (pc', ls', st', q')) => zGo k n d m pc' ls' st' q'
      | some (.inr (.inl (m', as, rest))) => match d with
        | 0 => none
        | d' + 1 => match zRun n d' m' 0 (zEnt m'.2.2.2.1 as) [] q with
          | some (r, q') => zGo k n (d' + 1) m (pc + 3) ls (r.toList ++ rest) q'
          | none => none
      | some (.inr (.inr _)) => none
      | none => none
    | _ => none
def zG0 : List Int := [0, 5, 4, 0, 4, 3, 0, 5, 1, 1, 0, 1, 0, 2, 4, 0, 0, 6, 3, 6, 2, 2, 0, 0, 0, 0]
def zG1 : List Int := [0, 0, 0, 1, 3, 2, 2]
def zG2 : List Int := [0, 0, 0, 0, 0, 1, 2]
def zMs : zM := fun a k => match a with
  | 0 => zG0.getD k 0
  | 1 => zG1.getD k 0
  | 2 => zG2.getD k 0
  | _ => 0
def zq0 : zS := ([(20, 26), (20, 7), (20, 7), (99, 0)], fun _ _ => -1, zMs)
def zshT : List (Nat × Nat) := [(9, 9), (8, 2), (20, 24), (3, 6), (22, 6), (23, 36), (0, 1), (20, 676), (8, 2), (20, 24), (8, 2), (20, 24), (8, 2), (20, 24), (8, 2), (20, 24), (8, 2), (20, 24), (8, 2), (20, 24), (1, 4), (20, 48), (20, 7), (1, 4), (20, 48), (20, 7), (1, 4), (20, 48), (20, 7), (1, 4), (20, 48), (20, 7), (1, 4), (20, 48), (20, 7), (1, 4), (20, 48), (20, 7), (1, 4), (20, 48), (20, 7), (1, 4), (20, 48), (20, 7), (1, 4), (20, 48), (20, 7), (1, 4), (20, 48), (20, 7), (1, 4), (20, 48), (20, 7), (1, 4), (20, 48), (20, 7), (1, 4), (20, 48), (20, 7), (1, 4), (20, 48), (20, 7), (1, 4), (20, 48), (20, 7), (1, 4), (20, 48), (20, 7), (1, 4), (20, 48), (20, 7), (1, 4), (20, 48), (20, 7), (1, 4), (20, 48), (20, 7), (1, 4), (20, 48), (20, 7), (1, 4), (20, 48), (20, 7), (1, 4), (20, 48), (20, 7), (1, 4), (20, 48), (20, 7), (1, 4), (20, 48), (20, 7), (1, 4), (20, 48), (20, 7), (1, 4), (20, 48), (20, 7), (1, 4), (20, 48), (20, 7), (1, 4), (20, 48), (20, 7), (1, 4), (20, 48), (20, 7), (1, 4), (20, 48), (20, 7), (1, 4), (20, 48), (20, 7), (1, 4), (20, 48), (20, 7), (1, 4), (20, 48), (20, 7), (1, 4), (20, 48), (20, 7), (1, 4), (20, 48), (20, 7), (1, 4), (20, 48), (20, 7), (7, 12), (24, 6), (20, 24), (20, 24), (20, 24), (20, 24), (20, 24), (20, 24), (20, 6), (20, 6), (20, 6), (20, 6), (20, 6), (20, 6), (20, 6), (6, 3), (24, 12), (20, 4), (20, 4), (20, 4), (20, 4), (20, 4), (20, 4), (20, 4), (20, 4), (20, 4), (20, 4), (20, 4), (20, 4), (2, 8), (20, 6), (20, 6), (20, 6), (20, 64), (20, 6), (4, 7), (20, 66), (20, 66), (20, 66), (20, 6), (5, 3), (20, 6), (10, 32), (20, 24), (20, 6), (20, 144), (20, 12), (20, 12), (20, 12), (20, 12), (20, 625), (20, 48), (20, 144), (21, 6), (20, 6), (20, 6), (20, 6), (20, 6), (20, 6), (20, 64), (20, 6), (20, 6)]
def zsh (c : Nat × Nat) : List (Nat × Nat) := (20, 26) :: (20, 7) :: (20, 7) :: c :: zshT
def zKT : List (List Int) := [[], [], [], [], [5, 7, 132, 147, 161, 167, 172, -1, -1], [6, -1], [], [8, 9, 10, -1, -1, -1], [12, 14, 16, 18, 20, 22], [24, 27, 30, 33, 36, 39, 42, 45, 48, 51, 54, 57, 60, 63, 66, 69, 72, 75, 78, 81, 84, 87, 90, 93, 96, 99, 102, 105, 108, 111, 114, 117, 120, 123, 126, 129], [11], [], [13, -1], [], [15, -1], [], [17, -1], [], [19, -1], [], [21, -1], [], [23, -1], [], [25, 26, -1, -1], [], [], [28, 29, -1, -1], [], [], [31, 32, -1, -1], [], [], [34, 35, -1, -1], [], [], [37, 38, -1, -1], [], [], [40, 41, -1, -1], [], [], [43, 44, -1, -1], [], [], [46, 47, -1, -1], [], [], [49, 50, -1, -1], [], [], [52, 53, -1, -1], [], [], [55, 56, -1, -1], [], [], [58, 59, -1, -1], [], [], [61, 62, -1, -1], [], [], [64, 65, -1, -1], [], [], [67, 68, -1, -1], [], [], [70, 71, -1, -1], [], [], [73, 74, -1, -1], [], [], [76, 77, -1, -1], [], [], [79, 80, -1, -1], [], [], [82, 83, -1, -1], [], [], [85, 86, -1, -1], [], [], [88, 89, -1, -1], [], [], [91, 92, -1, -1], [], [], [94, 95, -1, -1], [], [], [97, 98, -1, -1], [], [], [100, 101, -1, -1], [], [], [103, 104, -1, -1], [], [], [106, 107, -1, -1], [], [], [109, 110, -1, -1], [], [], [112, 113, -1, -1], [], [], [115, 116, -1, -1], [], [], [118, 119, -1, -1], [], [], [121, 122, -1, -1], [], [], [124, 125, -1, -1], [], [], [127, 128, -1, -1], [], [], [130, 131, -1, -1], [], [], [133, 140, 141, 142, 143, 144, 145, 146, -1, -1, -1, -1], [134, 135, 136, 137, 138, 139], [], [], [], [], [], [], [], [], [], [], [], [], [], [148, -1, -1], [149, 150, 151, 152, 153, 154, 155, 156, 157, 158, 159, 160], [], [], [], [], [], [], [], [], [], [], [], [], [162, 163, 164, 165, 166, -1, -1, -1], [], [], [], [], [], [168, 169, 170, 171, -1, -1, -1], [], [], [], [], [173, -1, -1], [], [-1, 175, -1, 176, 177, -1, -1, -1, 178, 179, 180, 181, -1, 182, -1, 183, -1, -1, 184, 185, -1, 186, 187, 188, 189, -1, 190, 191, -1, 192, 193, -1], [], [], [], [], [], [], [], [], [], [], [], [], [], [], [], [], [], [], []]
def zK0 : zM := fun a k => (zKT.getD a []).getD k (-1)
/-- the numbers at the start: nearly all 0 -/
def zMb : zM := fun a k => if a < 3 then zMs a k else if a = 7 ∧ k = 4 then 3 else if a = 132 ∧ k = 11 then -1 else if a = 161 ∧ k = 7 then -1 else if a = 167 ∧ k = 6 then -1 else if a = 172 ∧ k = 2 then -1 else if a = 174 ∧ k = 5 then 3 else 0
def zAg (q : zS) : Bool := (List.range 194).all (fun a => match (zsh (99, 0))[a]? with
  | some (kd, n) => (List.range (if kd < 11 ∨ 22 ≤ kd then n else 0)).all (fun k => (if kd < 11 ∨ 22 ≤ kd then decide (q.2.1 a k = zK0 a k) else true) && (if kd < 11 then decide (q.2.2 a k = zMb a k) && decide (q.2.2 a (k + 1000) = 0) else true))
  | none => false)
def zchk (o : Option (Nat × List zV × List zV × zS)) : Bool := match o with
  | some (pc, ls, st, q) => decide (pc = 18) && (decide (ls = [rV 3, rV 4, rV 174, iV 0]) && (decide (st = []) && (decide (q.1 = zsh (99, 0)) && zAg q)))
  | none => false
set_option maxRecDepth 100000 in
set_option maxHeartbeats 4000000 in
theorem zP1 : zchk (zGo 10 4000 12 zm_law 0 [rV 3, uV, uV, uV] [] zq0) = true := by decide +kernel
end
section
/-! THE CLAIM OUT OF ONE WALK OF THE LAW'S BODY. Your part is whole_start (and what it stands on); all else here is the same for every law, but numbers. -/
def R_law : String := "StopPressLaw"
def lw_P (b : Addr) (xs : List Int32) (args : Array Value) (s : State) : Prop := args = #[.ref b] ∧ s.IntsAt b xs ∧ xs.length ≤ 2560 ∧ (Jvm.Cond.and given_1 narrow_1).before args s = true
def lw_Q (_ : Array Value) (s : State) (o : Outcome) (t : State) : Prop := o = .returned (some (.int 1)) ∧ Framed s o t [] 600000 7302250
def lw_Z (below : List Frame) (a : Array Value) (s : State) : State → Prop := fun t => ∃ o, t.status = .running ∧ Ended t below o ∧ lw_Q a s o t
/-- the law's own end, with 1 on the stack, nothing written that was there before, its room as the claim has it -/
theorem lw_ret {p : Program} {l : Launch} {e : Env} {s : State} {m : MethodId} {below : List Frame} {meth : Method} {c : Code} {b : Nat} (hx : p.tables.exec = Jvm.exec) (hb : c.code = code) (hr : meth.sig.returnType = ret) (hlocks : meth.locks = false) {pc : Nat} {H : Heap} {ls : Array Slot} (hdg : decode code pc = .ok (.ireturn, 1)) : W p l e room_1 s m #[Value.ref b] below meth c H [] 600000 7302250 (lw_Z below #[Value.ref b] s) (F0 m pc ls [.int 1]) := by
  intro T hT X
  obtain ⟨fs, hret, hrun, hended, hW, hframe⟩ := X.leave (v := some (.int 1)) (hlocks := hlocks) (fun h => by rw [hr] at h; cases h)
  have hmeth' : T.vm.method? m = some meth := X.method'
  refine ⟨T.setFrames fs, ?_, .returned (some (.int 1)), hrun, hended, rfl, ⟨_, rfl⟩, hW, hframe⟩
  jvm_step X.here [X.here.top, hx, hb, hdg, hmeth', hr, ret, narrow_b1]
  (try refine ⟨rfl, ?_⟩); (try refine ⟨rfl, ?_⟩)
  first | (intro acts; rw [hret _ acts rfl rfl rfl]) | rw [hret _ _ rfl rfl rfl]
  exact Steps.refl _
/-- what holds at the law's entry: the machine, the code, the tables' words (any of lw_tbl by 'hts w (by decide +kernel)'), the script of L ints xs at the cell b, what the Statement gives of the start (any of its parts by flat_of_before) -/
def lw_At (p : Program) (s : State) (m : MethodId) (meth : Method) (c : Code) (b L : Nat) (xs : Nat → Int32) : Prop :=
  p.tables.exec = Jvm.exec ∧ c.code = code ∧ meth.sig.returnType = ret ∧ c.maxLocals = 4 ∧ s.vm.findClass R_law = some m.cls ∧ (∀ w ∈ lw_tbl, w.before #[Value.ref b] s = true) ∧ va_X b L xs s s.heap ∧ b < s.heap.size ∧ meth.locks = false ∧ (Jvm.Cond.and given_1 narrow_1).before #[Value.ref b] s = true
end
section
/-! from the law's entry to its loop, and the claim out of one run of the small machine -/
section ZGo
variable {D : va_G} {cA : Nat → ClassId} {ad : Nat → Nat} {base : Nat}
theorem zGo_mono : ∀ (k n d : Nat) (m : zD) (pc : Nat) (ls st : List zV) (q : zS) (pc' : Nat) (ls' st' : List zV) (q' : zS), zGo k n d m pc ls st q = some (pc', ls', st', q') → ∃ t, q'.1 = q.1 ++ t := by
  intro k
  induction k with
  | zero => intro n d m pc ls st q pc' ls' st' q' h; cases h; exact ⟨[], (List.append_nil _).symm⟩
  | succ k ih =>
    intro n d m pc ls st q pc' ls' st' q' h
    simp only [zGo] at h
    split at h
    · split at h
      · next pc1 ls1 st1 q1 hx =>
        obtain ⟨t1, e1⟩ := zEx_mono hx
        obtain ⟨t2, e2⟩ := ih _ _ _ _ _ _ _ _ _ _ _ h
        exact ⟨t1 ++ t2, by rw [e2, e1, List.append_assoc]⟩
      · split at h
        · cases h
        · split at h
          · next r1 q1 hr =>
            obtain ⟨t1, e1⟩ := zRun_mono _ _ _ _ _ _ _ _ _ hr
            obtain ⟨t2, e2⟩ := ih _ _ _ _ _ _ _ _ _ _ _ h
            exact ⟨t1 ++ t2, by rw [e2, e1, List.append_assoc]⟩
          · cases h
      · cases h
      · cases h
    · cases h
theorem zGo_sim : ∀ (k n d : Nat) (m : zD) (pc : Nat) (ls st : List zV) (q : zS) (pc' : Nat) (ls' st' : List zV) (q' : zS), zGo k n d m pc ls st q = some (pc', ls', st', q') →
    ∀ {p : Program} {l : Launch} {e : Env} {R : Room} {s : State} {mid : MethodId} {args : Array Value} {below : List Frame} {meth : Method} {c : Code} {Q : State → Prop}, zFx p R s mid args meth c m d → zEnv D cA ad base s → ∀ (H : Heap) (locs : List Loc) (cells slots : Nat) (lsR : Array Slot), zIn D cA ad base s m ls st q H locs lsR →
    cells + (q'.1.length - q.1.length) ≤ R.cells → slots + (zSz q' - zSz q) ≤ R.slots →
    (∀ (H' : Heap) (locs' : List Loc) (lsR' : Array Slot), zIn D cA ad base s m ls' st' q' H' locs' lsR' → W p l e R s mid args below meth c H' locs' (cells + (q'.1.length - q.1.length)) (slots + (zSz q' - zSz q)) Q (F0 mid pc' lsR' (st'.map (zE ad)))) →
    W p l e R s mid args below meth c H locs cells slots Q (F0 mid pc lsR (st.map (zE ad))) := by
  intro k
  induction k with
  | zero =>
    intro n d m pc ls st q pc' ls' st' q' h p l e R s mid args below meth c Q F E H locs cells slots lsR I hc hs kk
    cases h
    have := kk H locs lsR I
    rw [Nat.sub_self, Nat.sub_self, Nat.add_zero, Nat.add_zero] at this
    exact this
  | succ k ih =>
    intro n d m pc ls st q pc' ls' st' q' h p l e R s mid args below meth c Q F E H locs cells slots lsR I hc hs kk
    have hg := z_grow (zGo_mono _ _ _ _ _ _ _ _ _ _ _ _ h)
    simp only [zGo] at h
    split at h
    · next i len hdg =>
      split at h
      · next pc1 ls1 st1 q1 hx =>
        have g1 := z_grow (zEx_mono hx)
        have g2 := z_grow (zGo_mono _ _ _ _ _ _ _ _ _ _ _ _ h)
        refine zS1 F E hdg hx I (by omega) (by omega) (by omega) (by omega) fun H1 locs1 lsR1 I1 => ?_
        refine ih _ _ _ _ _ _ _ _ _ _ _ h F E H1 locs1 _ _ lsR1 I1 (by omega) (by omega) fun H2 locs2 lsR2 k1 => ?_
        have := kk H2 locs2 lsR2 k1
        rw [show cells + (q1.1.length - q.1.length) + (q'.1.length - q1.1.length) = cells + (q'.1.length - q.1.length) by omega, show slots + (zSz q1 - zSz q) + (zSz q' - zSz q1) = slots + (zSz q' - zSz q) by omega]
        exact this
      · next m1 as rest hx =>
        split at h
        · cases h
        · next d1 =>
          split at h
          · next r1 q1 hr1 =>
            have g1 := z_grow (zRun_mono _ _ _ _ _ _ _ _ _ hr1)
            have g2 := z_grow (zGo_mono _ _ _ _ _ _ _ _ _ _ _ _ h)
            have hce : cells + (q1.1.length - q.1.length) + (q'.1.length - q1.1.length) = cells + (q'.1.length - q.1.length) := by omega
            have hse : slots + (zSz q1 - zSz q) + (zSz q' - zSz q1) = slots + (zSz q' - zSz q) := by omega
            refine zCallStep (zSim _) hr1 F E I hdg hx (by omega) (by omega) fun H1 locs1 I1 => ?_
            refine ih _ _ _ _ _ _ _ _ _ _ _ h F E H1 locs1 _ _ lsR I1 (by rw [hce]; exact hc) (by rw [hse]; exact hs) fun H2 locs2 lsR2 k1 => ?_
            have := kk H2 locs2 lsR2 k1
            rw [hce, hse]
            exact this
          · cases h
      · cases h
      · cases h
    · cases h
end ZGo
/-- what the numbers are behind the constructors -/
def zM1 : zM := match zGo 10 4000 12 zm_law 0 [rV 3, uV, uV, uV] [] zq0 with
  | some (_, _, _, q) => q.2.2
  | none => fun _ _ => 0
def zM0 (xs : Nat → Int32) : zM := fun a k => if a = 3 then (xs k).toInt else zM1 a k
theorem zP1_ex : ∃ q : zS, zGo 10 4000 12 zm_law 0 [rV 3, uV, uV, uV] [] zq0 = some (18, [rV 3, rV 4, rV 174, iV 0], [], q) ∧ q.1 = zsh (99, 0) ∧ zAg q = true ∧ q.2.2 = zM1 := by
  have h := zP1
  unfold zM1
  cases hz : zGo 10 4000 12 zm_law 0 [rV 3, uV, uV, uV] [] zq0 with
  | none => rw [hz] at h; cases h
  | some x =>
    obtain ⟨pc, ls, st, q⟩ := x
    rw [hz] at h
    simp only [zchk, Bool.and_eq_true, decide_eq_true_eq] at h
    obtain ⟨rfl, rfl, rfl, h4, h5⟩ := h
    exact ⟨q, rfl, h4, h5, rfl⟩
theorem zAg_at {q : zS} (h : zAg q = true) {a kd n k : Nat} (ha : (zsh (99, 0))[a]? = some (kd, n)) (hk : k < n) (hkd : kd < 11 ∨ 22 ≤ kd) : q.2.1 a k = zK0 a k ∧ (kd < 11 → q.2.2 a k = zMb a k ∧ q.2.2 a (k + 1000) = 0) := by
  have h194 : a < 194 := (List.getElem?_eq_some_iff.mp ha).1
  have h1 := List.all_eq_true.mp h a (List.mem_range.mpr h194)
  simp only [ha] at h1
  rw [if_pos hkd] at h1
  have h2 := List.all_eq_true.mp h1 k (List.mem_range.mpr hk)
  simp only [Bool.and_eq_true] at h2
  rw [if_pos hkd] at h2
  refine ⟨of_decide_eq_true h2.1, fun h11 => ?_⟩
  have h3 := h2.2
  rw [if_pos h11] at h3
  simp only [Bool.and_eq_true] at h3
  exact ⟨of_decide_eq_true h3.1, of_decide_eq_true h3.2⟩
theorem zM1_at {a kd n k : Nat} (ha : (zsh (99, 0))[a]? = some (kd, n)) (hk : k < n) (hkd : kd < 11) : zM1 a k = zMb a k ∧ zM1 a (k + 1000) = 0 := by
  obtain ⟨q, -, -, h5, h6⟩ := zP1_ex
  rw [← h6]
  exact (zAg_at h5 ha hk (Or.inl hkd)).2 hkd
theorem zsh_ne {c : Nat × Nat} {a : Nat} (h : a ≠ 3) : (zsh c)[a]? = (zsh (99, 0))[a]? := by
  match a, h with
  | 0, _ => rfl
  | 1, _ => rfl
  | 2, _ => rfl
  | 3, h => exact absurd rfl h
  | a + 4, _ => rfl
theorem zsh_obj : ∀ a, a < 194 → ∀ e, (zsh (99, 0))[a]? = some e → e.1 < 11 → e.2 = zNF e.1 := by
  have h : (List.range 194).all (fun a => match (zsh (99, 0))[a]? with
    | some e => if e.1 < 11 then decide (e.2 = zNF e.1) else true
    | none => true) = true := by decide +kernel
  intro a ha e he h11
  have h1 := List.all_eq_true.mp h a (List.mem_range.mpr ha)
  simp only [he] at h1
  rw [if_pos h11] at h1
  exact of_decide_eq_true h1
theorem arrV_congr {cI : ClassId} {N : Nat} {f g : Nat → Value} (h : ∀ j, j < N → f j = g j) : arrV cI N f = arrV cI N g := by
  unfold arrV
  congr 1
  apply Array.ext
  · simp
  · intro j h1 h2
    simp only [Array.getElem_ofFn]
    exact h j (by simpa using h1)
/-- the world at the loop's head, in words of the script -/
theorem zSwitch {D : va_G} {cA : Nat → ClassId} {ad : Nat → Nat} {base L : Nat} {xs : Nat → Int32} {s : State} {H : Heap} {q : zS} (h1 : q.1 = zsh (99, 0)) (h5 : zAg q = true) (h6 : q.2.2 = zM1) (hR : zRel D cA ad base q s H) (hX : zX (ad 3) L xs s H) : zRel D cA ad base (zsh (20, L), zK0, zM0 xs) s H := by
  obtain ⟨r1, r2, r3, r4, r5, r6⟩ := hR
  rw [h1] at r1 r2 r3 r4 r5
  refine ⟨r1, r2, fun a e ha he => ?_, fun a n ha he => ?_, fun a e ha he => ?_, fun a k => ?_⟩
  · have he' : (zsh (99, 0))[a]? = some e := by rw [← zsh_ne (show a ≠ 3 by omega)]; exact he
    have hc := r3 a e ha he'
    have h194 : a < 194 := (List.getElem?_eq_some_iff.mp he').1
    have hM : ∀ k, zM0 xs a k = q.2.2 a k := fun k => by
      unfold zM0
      rw [if_neg (show a ≠ 3 by omega), h6]
    refine ⟨fun h11 => (hc.1 h11).to (fun k hk => ?_), fun g1 g2 => ?_⟩
    · have hk' : k < e.2 := by rw [zsh_obj a h194 e he' h11]; exact hk
      have := (zAg_at (k := k) h5 (show (zsh (99, 0))[a]? = some (e.1, e.2) from he') hk' (Or.inl h11)).1
      simp only [zFv, hM, this]
    · rw [hc.2 g1 g2]
      congr 1
      refine arrV_congr (fun j hj => ?_)
      simp only [zAv, hM]
      by_cases h20 : e.1 = 20 ∨ e.1 = 21
      · rw [if_pos h20, if_pos h20]
      · rw [if_neg h20, if_neg h20, (zAg_at (k := j) h5 (show (zsh (99, 0))[a]? = some (e.1, e.2) from he') hj (Or.inr (by omega))).1]
  · by_cases h3 : a = 3
    · subst h3
      have e9 : L = n := by
        have : some ((20 : Nat), L) = some (20, n) := he
        simpa using this
      subst e9
      refine zX_kept hX rfl (fun j => ?_)
      show xs j = Int32.ofInt (if 3 = 3 then (xs j).toInt else zM1 3 j)
      rw [if_pos rfl, z_re]
    · have he' : (zsh (99, 0))[a]? = some (20, n) := by rw [← zsh_ne h3]; exact he
      refine zX_kept (r4 a n ha he') rfl (fun j => ?_)
      show Int32.ofInt (q.2.2 a j) = Int32.ofInt (if a = 3 then (xs j).toInt else zM1 a j)
      rw [if_neg h3, h6]
  · by_cases h3 : a = 3
    · subst h3
      have : some ((20 : Nat), L) = some e := he
      cases this
      exact Or.inl rfl
    · exact r5 a e ha (by rw [← zsh_ne h3]; exact he)
  · show zR (if a = 3 then (xs k).toInt else zM1 a k)
    split
    · exact zR_of _
    · rw [← h6]; exact r6 a k
theorem zInst {c : Nat} (h : c < 11) : Cond.instantiable (zCn c) (zNF c) ∈ zGW := by
  rcases (show c = 0 ∨ c = 1 ∨ c = 2 ∨ c = 3 ∨ c = 4 ∨ c = 5 ∨ c = 6 ∨ c = 7 ∨ c = 8 ∨ c = 9 ∨ c = 10 by omega) with rfl | rfl | rfl | rfl | rfl | rfl | rfl | rfl | rfl | rfl | rfl
  · exact (zNew_ok (c := 3) (i := 23) rfl).2.1
  · exact (zNew_ok (c := 3) (i := 17) rfl).2.1
  · exact (zNew_ok (c := 9) (i := 37) rfl).2.1
  · exact (zNew_ok (c := 9) (i := 16) rfl).2.1
  · exact (zNew_ok (c := 9) (i := 44) rfl).2.1
  · exact (zNew_ok (c := 9) (i := 51) rfl).2.1
  · exact (zNew_ok (c := 9) (i := 30) rfl).2.1
  · exact (zNew_ok (c := 9) (i := 23) rfl).2.1
  · exact (zNew_ok (c := 9) (i := 7) rfl).2.1
  · exact (zNew_ok (c := 11) (i := 7) rfl).2.1
  · exact (zNew_ok (c := 11) (i := 10) rfl).2.1
theorem zg_0 : ∀ j, j < 26 → (flatC (Jvm.Cond.and given_1 narrow_1))[7 + j]? = some (Cond.eq (.elem (.static "StopPress" "GROUP_OF_LETTER" "[I") (.int (Int32.ofNat j))) (.int (Int32.ofInt (zG0.getD j 0)))) := by decide +kernel
theorem zg_1 : ∀ j, j < 7 → (flatC (Jvm.Cond.and given_1 narrow_1))[36 + j]? = some (Cond.eq (.elem (.static "StopPress" "COST_OF_KIND" "[I") (.int (Int32.ofNat j))) (.int (Int32.ofInt (zG1.getD j 0)))) := by decide +kernel
theorem zg_2 : ∀ j, j < 7 → (flatC (Jvm.Cond.and given_1 narrow_1))[46 + j]? = some (Cond.eq (.elem (.static "StopPress" "STEP_OF_KIND" "[I") (.int (Int32.ofNat j))) (.int (Int32.ofInt (zG2.getD j 0)))) := by decide +kernel
theorem zStatic {s : State} {args : Array Value} {base N pa pl : Nat} {nm : String} {G : List Int} (hs : ∀ c ∈ flatC (Jvm.Cond.and given_1 narrow_1), c.before args s = true) (hb : base = s.heap.size) (hN : N < 100) (hts : ∀ w ∈ lw_tbl, w.before args s = true) (hl : Cond.laysStatic "StopPress" nm "[I" ∈ lw_tbl)
    (h1 : (flatC (Jvm.Cond.and given_1 narrow_1))[pa]? = some (Cond.arrayOf (.static "StopPress" nm "[I") .int)) (h2 : (flatC (Jvm.Cond.and given_1 narrow_1))[pa + 1]? = some (Cond.eq (.length (.static "StopPress" nm "[I")) (.int (Int32.ofNat N))))
    (h3 : ∀ j, j < N → (flatC (Jvm.Cond.and given_1 narrow_1))[pl + j]? = some (Cond.eq (.elem (.static "StopPress" nm "[I") (.int (Int32.ofNat j))) (.int (Int32.ofInt (G.getD j 0))))) :
    ∃ t : Nat, va_Z "StopPress" nm "[I" (.ref t) (zA base) s s.heap ∧ zX t N (fun j => Int32.ofInt (G.getD j 0)) s s.heap ∧ t < base := by
  have hA : ∀ a : Nat, a < s.heap.size → ¬ zA base a := fun a ha hh => by
    have : base ≤ a := hh
    omega
  obtain ⟨t, ht, cell, g1, g2, g3, g4, g5, g6, g7⟩ := va_Tof (A := zA base) (f := fun j => .int (Int32.ofInt (G.getD j 0))) (show N < 2 ^ 31 by omega) (hs _ (List.mem_of_getElem? h1)) (va_eqt (hs _ (List.mem_of_getElem? h2))) (fun j hj => va_eqt (hs _ (List.mem_of_getElem? (h3 j hj)))) hA
  exact ⟨t, va_Zref (hts _ hl) (hts _ (List.mem_filter.mp zIn9).1) ht hA, ⟨cell, g1, g2, g3, g4, g5, g6⟩, by rw [hb]; exact (Array.getElem?_eq_some_iff.mp g1).1⟩
/-- the world at the law's entry -/
theorem zEnter {p : Program} {s : State} {m : MethodId} {meth : Method} {c : Code} {b L : Nat} {xs : Nat → Int32} (C0 : lw_At p s m meth c b L xs) : ∃ (D : va_G) (cA : Nat → ClassId) (ad : Nat → Nat), zEnv D cA ad s.heap.size s ∧ zRel D cA ad s.heap.size zq0 s s.heap ∧ ad 3 = b := by
  obtain ⟨hx, hb, hr, hml, hown, hts, hX, hbl, hlocks, hgv⟩ := C0
  have hs := flat_of_before _ hgv
  obtain ⟨t0, z0, x0, l0⟩ := zStatic (pa := 5) (pl := 7) (N := 26) (nm := "GROUP_OF_LETTER") (G := zG0) hs rfl (by decide) hts zLs0 (by decide +kernel) (by decide +kernel) zg_0
  obtain ⟨t1, z1, x1, l1⟩ := zStatic (pa := 34) (pl := 36) (N := 7) (nm := "COST_OF_KIND") (G := zG1) hs rfl (by decide) hts zLs1 (by decide +kernel) (by decide +kernel) zg_1
  obtain ⟨t2, z2, x2, l2⟩ := zStatic (pa := 44) (pl := 46) (N := 7) (nm := "STEP_OF_KIND") (G := zG2) hs rfl (by decide) hts zLs2 (by decide +kernel) (by decide +kernel) zg_2
  have hgw : ∀ w ∈ zGW, w.before #[Value.ref b] s = true := fun w hw => hts w (List.mem_filter.mp hw).1
  have hkn : ∀ c : Nat, ∃ y : ClassId × (Nat → Nat), c < 11 → u_Kn s (zCn c) (zTT c) (zNF c) y.1 y.2 := fun c => by
    by_cases hc : c < 11
    · obtain ⟨cC, iS, h⟩ := u_known (C := zCn c) (T := zTT c) (N := zNF c) (n := zNF c) hgw (zi_c hc) (hgw _ (zInst hc))
      exact ⟨(cC, iS), fun _ => h⟩
    · exact ⟨(0, fun _ => 0), fun h => absurd h hc⟩
  obtain ⟨c20, k20, p20, a1, a2, a3⟩ := Cond.arrayClass_spec (hgw _ zAi)
  obtain ⟨c21, k21, p21, b1, b2, b3⟩ := Cond.arrayClass_spec (hgw _ zAz)
  obtain ⟨p22, c22, k22, d1, d2, d3, d4, d5⟩ := Cond.arrayOver_spec (hts _ zAoT)
  obtain ⟨p23, c23, k23, e1, e2, e3, e4, e5⟩ := Cond.arrayOver_spec (hts _ zAoA)
  obtain ⟨p24, c24, k24, f1, f2, f3, f4, f5⟩ := arrayOverA_spec (hts _ zAoI)
  refine ⟨(fun c => (Classical.choose (hkn c)).1, fun c => (Classical.choose (hkn c)).2), fun k => if k = 20 then c20 else if k = 21 then c21 else if k = 22 then c22 else if k = 23 then c23 else c24, fun a => if a = 0 then t0 else if a = 1 then t1 else if a = 2 then t2 else if a = 3 then b else s.heap.size + (a - 4), ⟨⟨fun a ha => ?_, fun a ha => ?_⟩, ⟨fun c y hy => ?_, fun k y hy => ?_⟩, fun w hw => ?_, hts _ zAoT, hts _ zAoA, hts _ zAoI, fun a ha => ?_, Nat.le_refl _⟩, ⟨rfl, Nat.le_refl _, fun a e ha he => ?_, fun a n ha he => ?_, fun a e ha he => ?_, fun a k => ?_⟩, rfl⟩
  · simp only [show a ≠ 0 by omega, show a ≠ 1 by omega, show a ≠ 2 by omega, show a ≠ 3 by omega, if_false]
  · rcases (show a = 0 ∨ a = 1 ∨ a = 2 ∨ a = 3 by omega) with rfl | rfl | rfl | rfl
    · exact l0
    · exact l1
    · exact l2
    · exact hbl
  · have hc : c < 11 := (List.getElem?_eq_some_iff.mp hy).1
    rw [zCls_at hc] at hy
    cases hy
    exact Classical.choose_spec (hkn c) hc
  · have hk : k < 5 := (List.getElem?_eq_some_iff.mp hy).1
    rcases (show k = 0 ∨ k = 1 ∨ k = 2 ∨ k = 3 ∨ k = 4 by omega) with rfl | rfl | rfl | rfl | rfl
    · cases hy
      exact ⟨fun n z => ⟨fun k h => (by cases h), k20, a2, p20, a3⟩, a1⟩
    · cases hy
      exact ⟨fun n z => ⟨fun k h => (by cases h), k21, b2, p21, b3⟩, b1⟩
    · cases hy
      exact ⟨fun n z => ⟨fun k h => (by cases h), k22, d3, p22, d4⟩, k22, p22, d3, d4, d1, d5⟩
    · cases hy
      exact ⟨fun n z => ⟨fun k h => (by cases h), k23, e3, p23, e4⟩, k23, p23, e3, e4, e1, e5⟩
    · cases hy
      exact ⟨fun n z => ⟨fun k h => (by cases h), k24, f3, p24, f4⟩, f5⟩
  · have h1 := hts w (zNW_in w hw)
    simp only [zNW, List.mem_cons, List.not_mem_nil, or_false] at hw
    rcases hw with rfl | rfl | rfl | rfl | rfl | rfl | rfl | rfl | rfl | rfl | rfl | rfl | rfl <;> exact va_Nw.of rfl h1
  · rcases (show a = 0 ∨ a = 1 ∨ a = 2 by omega) with rfl | rfl | rfl
    · exact z0
    · exact z1
    · exact z2
  · have : a < 4 := (List.getElem?_eq_some_iff.mp he).1
    omega
  · rcases (show a = 0 ∨ a = 1 ∨ a = 2 ∨ a = 3 by omega) with rfl | rfl | rfl | rfl
    · cases he
      exact x0
    · cases he
      exact x1
    · cases he
      exact x2
    · cases he
  · rcases (show a = 0 ∨ a = 1 ∨ a = 2 ∨ a = 3 by omega) with rfl | rfl | rfl | rfl
    · cases he; exact Or.inl rfl
    · cases he; exact Or.inl rfl
    · cases he; exact Or.inl rfl
    · cases he; exact Or.inr rfl
  · have hG : ∀ (l : List Int), (∀ x ∈ l, zR x) → ∀ k, zR (l.getD k 0) := fun l hl k => by
      rw [List.getD_eq_getElem?_getD]
      cases hk : l[k]? with
      | none => exact zR_0
      | some v => exact hl v (List.mem_of_getElem? hk)
    show zR (zMs a k)
    unfold zMs
    split
    · exact hG zG0 (by unfold zR; decide) k
    · exact hG zG1 (by unfold zR; decide) k
    · exact hG zG2 (by unfold zR; decide) k
    · exact zR_0
/-- THE CLAIM'S WALK out of runs of the small machine from the loop's head -/
theorem zWhole (hmain : ∀ (L : Nat) (xs : Nat → Int32), L ≤ 2560 → ∃ (n : Nat) (M' : zM), zRun n 40 zm_law 18 [rV 3, rV 4, rV 174, iV 0] [] (zsh (20, L), zK0, zM0 xs) = some (some (iV 1), (zsh (20, L), zK0, M')))
    {p : Program} {e : Env} {s : State} {m : MethodId} {below : List Frame} {meth : Method} {c : Code} (l : Launch) {b L : Nat} {xs : Nat → Int32} (hL : L ≤ 2560) (C0 : lw_At p s m meth c b L xs) : W p l e room_1 s m #[Value.ref b] below meth c s.heap [] 0 0 (lw_Z below #[Value.ref b] s) (entryFrame m ([Value.ref b] : List Value).toArray 4) := by
  obtain ⟨D, cA, ad, hE, hR, h3⟩ := zEnter C0
  obtain ⟨hx, hb, hr, hml, hown, hts, hX, hbl, hlocks, hgv⟩ := id C0
  have hF : ∀ d, d ≤ 40 → zFx p room_1 s m #[Value.ref b] meth c zm_law d := fun d hd => ⟨hx, hb, hml, hown, fun w hw => hts w (List.mem_filter.mp hw).1, hr, hlocks, fun e9 => absurd e9 (by decide), by show d + 1 ≤ 2048; omega, by show 42 * (d + 1) ≤ 84000; omega⟩
  obtain ⟨q, hq, hq1, hq5, hq6⟩ := zP1_ex
  obtain ⟨n, M', hrun⟩ := hmain L xs hL
  have hl := lv_entry ([.ref b]) (n := 4) (Nat.le_of_ble_eq_true rfl)
  rw [lg_entry_eq]
  have hLR : zLR ad 4 [rV 3, uV, uV, uV] ((lg_sl [Value.ref b] ++ List.replicate (4 - (lg_sl [Value.ref b]).length) Slot.unset).toArray) := by
    have := zEnt_LR (ad := ad) (as := [rV 3]) (nL := 4) (by decide)
    simp only [List.map_cons, List.map_nil, zE, h3] at this
    exact this
  have hlen : q.1.length = 194 := by rw [hq1]; rfl
  have hsz : zSz q = zSz (zsh (99, 0), zK0, zK0) := by unfold zSz; rw [hq1]
  have hszn : zSz (zsh (99, 0), zK0, zK0) ≤ 100000 := by decide +kernel
  refine zGo_sim _ _ _ _ _ _ _ _ _ _ _ _ hq (hF 12 (by omega)) hE s.heap [] 0 0 _ ⟨hR, hLR, ?_, fun v hv => absurd hv List.not_mem_nil, va_S.rf⟩ (by rw [hlen]; show 0 + (194 - 4) ≤ 600000; omega) (by rw [hsz]; show 0 + (_ - _) ≤ 7302250; omega) fun H locs lsR I => ?_
  · intro v hv
    simp only [List.mem_cons, List.not_mem_nil, or_false] at hv
    rcases hv with rfl | rfl | rfl | rfl <;> trivial
  have hXs : zX (ad 3) L xs s H := by
    obtain ⟨scr, g1, g2, g3, g4, g5⟩ := hX
    rw [h3]
    exact ⟨scr, by rw [I.2.2.2.2.2.1 b hbl (Nat.not_le.mpr hbl)]; exact g1, g2, g3, by omega, by rw [g4], g5⟩
  have hR2 := zSwitch hq1 hq5 hq6 I.1 hXs
  refine zSim n 40 zm_law 18 _ _ _ _ _ hrun (hF 40 (by omega)) hE H locs _ _ lsR ⟨hR2, I.2.1, I.2.2.1, I.2.2.2.1, I.2.2.2.2⟩ (by rw [Nat.sub_self, hlen]; show 0 + (194 - 4) + 0 ≤ 600000; omega) (by rw [show zSz (zsh (20, L), zK0, M') - zSz (zsh (20, L), zK0, zM0 xs) = 0 from Nat.sub_self _, hsz]; show 0 + (_ - _) + 0 ≤ 7302250; omega) fun H' locs' pc' lsR' k1 k2 k3 k4 => ?_
  refine va_forget (fun x hx9 => k2.2.2 x hx9) ?_
  refine W.widen (k := 600000) (n := 7302250) (by rw [Nat.sub_self, hlen]; show 0 + (194 - 4) + 0 ≤ 600000; omega) (by rw [show zSz (zsh (20, L), zK0, M') - zSz (zsh (20, L), zK0, zM0 xs) = 0 from Nat.sub_self _, hsz]; show 0 + (_ - _) + 0 ≤ 7302250; omega) ?_
  have e1 : (some (iV 1) : Option zV).toList.map (zE ad) = [.int 1] := by
    show [Value.int (Int32.ofInt 1)] = _
    rfl
  rw [e1]
  exact lw_ret hx hb hr hlocks k3.1
end
section
/-! the small machine behind the constructors: weakest preconditions. The shapes and the references stay. -/
def zQ (L : Nat) (M : zM) : zS := (zsh (20, L), zK0, M)
def wp (L d : Nat) (m : zD) (pc : Nat) (ls st : List zV) (M : zM) (Q : Option zV → zM → Prop) : Prop := ∃ (n : Nat) (r : Option zV) (M' : zM), zRun n d m pc ls st (zQ L M) = some (r, zQ L M') ∧ Q r M'
/-- a call -/
def wpc (L d : Nat) (m : zD) (as : List zV) (M : zM) (Q : Option zV → zM → Prop) : Prop := wp L d m 0 (zEnt m.2.2.2.1 as) [] M Q
theorem zRun_more : ∀ (n d : Nat) (m : zD) (pc : Nat) (ls st : List zV) (q : zS) (x : Option zV × zS), zRun n d m pc ls st q = some x → ∀ n' d', n ≤ n' → d ≤ d' → zRun n' d' m pc ls st q = some x := by
  intro n
  induction n with
  | zero => intro d m pc ls st q x h; simp [zRun] at h
  | succ n ih =>
    intro d m pc ls st q x h n' d' hn hd
    obtain ⟨k, rfl⟩ : ∃ k, n' = k + 1 := ⟨n' - 1, by omega⟩
    simp only [zRun] at h ⊢
    split at h
    · split at h
      · exact ih _ _ _ _ _ _ _ h _ _ (by omega) hd
      · split at h
        · cases h
        · next d1 =>
          obtain ⟨e, rfl⟩ : ∃ e, d' = e + 1 := ⟨d' - 1, by omega⟩
          split at h
          · next r1 q1 hr =>
            dsimp only
            rw [ih _ _ _ _ _ _ _ hr k e (by omega) (by omega)]
            exact ih _ _ _ _ _ _ _ h _ _ (by omega) (by omega)
          · cases h
      · exact h
      · cases h
    · cases h
section ZWP
variable {L d pc : Nat} {m : zD} {ls st : List zV} {M : zM} {Q : Option zV → zM → Prop}
theorem wp_mono {Q' : Option zV → zM → Prop} (h : wp L d m pc ls st M Q) (hq : ∀ r M', Q r M' → Q' r M') : wp L d m pc ls st M Q' := by
  obtain ⟨n, r, M', h1, h2⟩ := h
  exact ⟨n, r, M', h1, hq r M' h2⟩
theorem wpc_mono {as : List zV} {Q' : Option zV → zM → Prop} (h : wpc L d m as M Q) (hq : ∀ r M', Q r M' → Q' r M') : wpc L d m as M Q' := wp_mono h hq
theorem wp_deep {d' : Nat} (h : wp L d m pc ls st M Q) (hd : d ≤ d') : wp L d' m pc ls st M Q := by
  obtain ⟨n, r, M', h1, h2⟩ := h
  exact ⟨n, r, M', zRun_more _ _ _ _ _ _ _ _ h1 _ _ (Nat.le_refl _) hd, h2⟩
theorem wp_step {i : Jvm.ClassFile.Instr} {len pc' : Nat} {ls' st' : List zV} {M' : zM} (hd : decode m.2.2.1 pc = .ok (i, len)) (he : zEx m pc len i ls st (zQ L M) = some (.inl (pc', ls', st', zQ L M'))) (h : wp L d m pc' ls' st' M' Q) : wp L d m pc ls st M Q := by
  obtain ⟨n, r, M2, h1, h2⟩ := h
  refine ⟨n + 1, r, M2, ?_, h2⟩
  simp only [zRun, hd, he]
  exact h1
theorem wp_retX {i : Jvm.ClassFile.Instr} {len : Nat} {r : Option zV} (hd : decode m.2.2.1 pc = .ok (i, len)) (he : zEx m pc len i ls st (zQ L M) = some (.inr (.inr r))) (h : Q r M) : wp L d m pc ls st M Q := by
  refine ⟨1, r, M, ?_, h⟩
  simp only [zRun, hd, he]
theorem wp_callX {i : Jvm.ClassFile.Instr} {len d' : Nat} {m' : zD} {as rest : List zV} {P : Option zV → zM → Prop} (hd : decode m.2.2.1 pc = .ok (i, len)) (he : zEx m pc len i ls st (zQ L M) = some (.inr (.inl (m', as, rest)))) (hc : wpc L d' m' as M P) (hle : d' + 1 ≤ d)
    (h : ∀ r M', P r M' → wp L d m (pc + 3) ls (r.toList ++ rest) M' Q) : wp L d m pc ls st M Q := by
  obtain ⟨n1, r1, M1, h1, h2⟩ := hc
  obtain ⟨n2, r2, M2, h3, h4⟩ := h r1 M1 h2
  obtain ⟨e, rfl⟩ : ∃ e, d = e + 1 := ⟨d - 1, by omega⟩
  refine ⟨n1 + n2 + 1, r2, M2, ?_, h4⟩
  simp only [zRun, hd, he]
  rw [zRun_more _ _ _ _ _ _ _ _ h1 (n1 + n2) e (by omega) (by omega)]
  exact zRun_more _ _ _ _ _ _ _ _ h3 _ _ (by omega) (Nat.le_refl _)

theorem wp_iconst {n : Int} (hd : decode m.2.2.1 pc = .ok (.iconst n, 1)) (hn : decide (-128 ≤ n ∧ n < 128) = true) (h : wp L d m (pc + 1) ls (iV n :: st) M Q) : wp L d m pc ls st M Q :=
  wp_step hd (by simp only [zEx, zNx, hn, beq_self_eq_true, Bool.and_self, if_true]) h
theorem wp_bipush {n : Int} (hd : decode m.2.2.1 pc = .ok (.bipush n, 2)) (hn : decide (-128 ≤ n ∧ n < 128) = true) (h : wp L d m (pc + 2) ls (iV n :: st) M Q) : wp L d m pc ls st M Q :=
  wp_step hd (by simp only [zEx, zNx, hn, beq_self_eq_true, Bool.and_self, if_true]) h
theorem wp_sipush {n : Int} (hd : decode m.2.2.1 pc = .ok (.sipush n, 3)) (hn : decide (-32768 ≤ n ∧ n < 32768) = true) (h : wp L d m (pc + 3) ls (iV n :: st) M Q) : wp L d m pc ls st M Q :=
  wp_step hd (by simp only [zEx, zNx, hn, beq_self_eq_true, Bool.and_self, if_true]) h
theorem wp_ldc {k : Nat} {v : Int} (hd : decode m.2.2.1 pc = .ok (.ldc k, 2)) (hv : zCst m.1 k = some v) (h : wp L d m (pc + 2) ls (iV v :: st) M Q) : wp L d m pc ls st M Q :=
  wp_step hd (by simp only [zEx, hv]; rfl) h
theorem wp_ldc_w {k : Nat} {v : Int} (hd : decode m.2.2.1 pc = .ok (.ldc_w k, 3)) (hv : zCst m.1 k = some v) (h : wp L d m (pc + 3) ls (iV v :: st) M Q) : wp L d m pc ls st M Q :=
  wp_step hd (by simp only [zEx, hv]; rfl) h
theorem wp_ldc2_w {k : Nat} {v : Int64} (hd : decode m.2.2.1 pc = .ok (.ldc2_w k, 3)) (hv : zCstL m.1 k = some v) (h : wp L d m (pc + 3) ls (lV v :: st) M Q) : wp L d m pc ls st M Q :=
  wp_step hd (by simp only [zEx, hv]; rfl) h
theorem wp_iload {k : Nat} {x : Int} (hd : decode m.2.2.1 pc = .ok (.iload k, 2)) (hl : ls[k]? = some (iV x)) (h : wp L d m (pc + 2) ls (iV x :: st) M Q) : wp L d m pc ls st M Q :=
  wp_step hd (by simp only [zEx, zLdI, hl]; rfl) h
theorem wp_iload_n {k : Fin 4} {x : Int} (hd : decode m.2.2.1 pc = .ok (.iload_n k, 1)) (hl : ls[k.val]? = some (iV x)) (h : wp L d m (pc + 1) ls (iV x :: st) M Q) : wp L d m pc ls st M Q :=
  wp_step hd (by simp only [zEx, zLdI, hl]; rfl) h
theorem wp_lload {k : Nat} {x : Int64} (hd : decode m.2.2.1 pc = .ok (.lload k, 2)) (hl : ls[k]? = some (lV x)) (h : wp L d m (pc + 2) ls (lV x :: st) M Q) : wp L d m pc ls st M Q :=
  wp_step hd (by simp only [zEx, zLdL, hl]; rfl) h
theorem wp_lload_n {k : Fin 4} {x : Int64} (hd : decode m.2.2.1 pc = .ok (.lload_n k, 1)) (hl : ls[k.val]? = some (lV x)) (h : wp L d m (pc + 1) ls (lV x :: st) M Q) : wp L d m pc ls st M Q :=
  wp_step hd (by simp only [zEx, zLdL, hl]; rfl) h
theorem wp_aload {k : Nat} {x : Nat} (hd : decode m.2.2.1 pc = .ok (.aload k, 2)) (hl : ls[k]? = some (rV x)) (h : wp L d m (pc + 2) ls (rV x :: st) M Q) : wp L d m pc ls st M Q :=
  wp_step hd (by simp only [zEx, zLdA, hl]; rfl) h
theorem wp_aload_n {k : Fin 4} {x : Nat} (hd : decode m.2.2.1 pc = .ok (.aload_n k, 1)) (hl : ls[k.val]? = some (rV x)) (h : wp L d m (pc + 1) ls (rV x :: st) M Q) : wp L d m pc ls st M Q :=
  wp_step hd (by simp only [zEx, zLdA, hl]; rfl) h
theorem wp_istore {k : Nat} {x : Int} {ls' : List zV} (hd : decode m.2.2.1 pc = .ok (.istore k, 2)) (hf : (decide (k < ls.length) && zFree ls k) = true) (hs : ls.set k (iV x) = ls') (h : wp L d m (pc + 2) ls' st M Q) : wp L d m pc ls (iV x :: st) M Q := by
  subst hs
  exact wp_step hd (by simp only [zEx, zStI, zNx]; rw [Bool.and_assoc, hf]; rfl) h
theorem wp_istore_n {k : Fin 4} {x : Int} {ls' : List zV} (hd : decode m.2.2.1 pc = .ok (.istore_n k, 1)) (hf : (decide (k.val < ls.length) && zFree ls k.val) = true) (hs : ls.set k.val (iV x) = ls') (h : wp L d m (pc + 1) ls' st M Q) : wp L d m pc ls (iV x :: st) M Q := by
  subst hs
  exact wp_step hd (by simp only [zEx, zStI, zNx]; rw [Bool.and_assoc, hf]; rfl) h
theorem wp_astore {k : Nat} {x : Nat} {ls' : List zV} (hd : decode m.2.2.1 pc = .ok (.astore k, 2)) (hf : (decide (k < ls.length) && zFree ls k) = true) (hs : ls.set k (rV x) = ls') (h : wp L d m (pc + 2) ls' st M Q) : wp L d m pc ls (rV x :: st) M Q := by
  subst hs
  exact wp_step hd (by simp only [zEx, zStA, zNx]; rw [Bool.and_assoc, hf]; rfl) h
theorem wp_astore_n {k : Fin 4} {x : Nat} {ls' : List zV} (hd : decode m.2.2.1 pc = .ok (.astore_n k, 1)) (hf : (decide (k.val < ls.length) && zFree ls k.val) = true) (hs : ls.set k.val (rV x) = ls') (h : wp L d m (pc + 1) ls' st M Q) : wp L d m pc ls (rV x :: st) M Q := by
  subst hs
  exact wp_step hd (by simp only [zEx, zStA, zNx]; rw [Bool.and_assoc, hf]; rfl) h
theorem wp_lstore {k : Nat} {x : Int64} {ls' : List zV} (hd : decode m.2.2.1 pc = .ok (.lstore k, 2)) (hf : (decide (k + 1 < ls.length) && zFree ls k) = true) (hs : (ls.set k (lV x)).set (k + 1) uV = ls') (h : wp L d m (pc + 2) ls' st M Q) : wp L d m pc ls (lV x :: st) M Q := by
  subst hs
  exact wp_step hd (by simp only [zEx, zStL, zNx]; rw [Bool.and_assoc, hf]; rfl) h
theorem wp_lstore_n {k : Fin 4} {x : Int64} {ls' : List zV} (hd : decode m.2.2.1 pc = .ok (.lstore_n k, 1)) (hf : (decide (k.val + 1 < ls.length) && zFree ls k.val) = true) (hs : (ls.set k.val (lV x)).set (k.val + 1) uV = ls') (h : wp L d m (pc + 1) ls' st M Q) : wp L d m pc ls (lV x :: st) M Q := by
  subst hs
  exact wp_step hd (by simp only [zEx, zStL, zNx]; rw [Bool.and_assoc, hf]; rfl) h
theorem z2_in {f : Int32 → Int32 → Int32} {a b v : Int} (hv : f (Int32.ofInt a) (Int32.ofInt b) = Int32.ofInt v) (h : zR v) : zI2 f a b = v := by
  unfold zI2
  rw [hv, z_of h]
theorem z_add (a b : Int) : Int32.ofInt a + Int32.ofInt b = Int32.ofInt (a + b) := (Int32.ofInt_add a b).symm
theorem z_sub (a b : Int) : Int32.ofInt a - Int32.ofInt b = Int32.ofInt (a - b) := (Int32.ofInt_sub a b).symm
theorem z_mul (a b : Int) : Int32.ofInt a * Int32.ofInt b = Int32.ofInt (a * b) := (Int32.ofInt_mul a b).symm
theorem wp_iinc {k : Nat} {n a : Int} {ls' : List zV} (hd : decode m.2.2.1 pc = .ok (.iinc k n, 3)) (hl : ls[k]? = some (iV a)) (hf : zFree ls k = true) (h1 : -2147483648 ≤ a + n) (h2 : a + n ≤ 2147483647) (hs : ls.set k (iV (a + n)) = ls') (h : wp L d m (pc + 3) ls' st M Q) : wp L d m pc ls st M Q := by
  subst hs
  refine wp_step hd ?_ h
  simp only [zEx, hl, hf]
  rw [z2_in (z_add a n) ⟨h1, h2⟩]
  rfl
theorem wp_iadd {a b : Int} (hd : decode m.2.2.1 pc = .ok (.iadd, 1)) (h1 : -2147483648 ≤ a + b) (h2 : a + b ≤ 2147483647) (h : wp L d m (pc + 1) ls (iV (a + b) :: st) M Q) : wp L d m pc ls (iV b :: iV a :: st) M Q := by
  refine wp_step hd ?_ h
  simp only [zEx, zBin]
  rw [z2_in (z_add a b) ⟨h1, h2⟩]
  rfl
theorem wp_isub {a b : Int} (hd : decode m.2.2.1 pc = .ok (.isub, 1)) (h1 : -2147483648 ≤ a - b) (h2 : a - b ≤ 2147483647) (h : wp L d m (pc + 1) ls (iV (a - b) :: st) M Q) : wp L d m pc ls (iV b :: iV a :: st) M Q := by
  refine wp_step hd ?_ h
  simp only [zEx, zBin]
  rw [z2_in (z_sub a b) ⟨h1, h2⟩]
  rfl
theorem wp_imul {a b : Int} (hd : decode m.2.2.1 pc = .ok (.imul, 1)) (h1 : -2147483648 ≤ a * b) (h2 : a * b ≤ 2147483647) (h : wp L d m (pc + 1) ls (iV (a * b) :: st) M Q) : wp L d m pc ls (iV b :: iV a :: st) M Q := by
  refine wp_step hd ?_ h
  simp only [zEx, zBin]
  rw [z2_in (z_mul a b) ⟨h1, h2⟩]
  rfl
theorem wp_iand {a b v : Int} (hd : decode m.2.2.1 pc = .ok (.iand, 1)) (hv : zI2 (· &&& ·) a b = v) (h : wp L d m (pc + 1) ls (iV v :: st) M Q) : wp L d m pc ls (iV b :: iV a :: st) M Q := by
  subst hv
  exact wp_step hd rfl h
theorem wp_ior {a b v : Int} (hd : decode m.2.2.1 pc = .ok (.ior, 1)) (hv : zI2 (· ||| ·) a b = v) (h : wp L d m (pc + 1) ls (iV v :: st) M Q) : wp L d m pc ls (iV b :: iV a :: st) M Q := by
  subst hv
  exact wp_step hd rfl h
theorem wp_ixor {a b v : Int} (hd : decode m.2.2.1 pc = .ok (.ixor, 1)) (hv : zI2 (· ^^^ ·) a b = v) (h : wp L d m (pc + 1) ls (iV v :: st) M Q) : wp L d m pc ls (iV b :: iV a :: st) M Q := by
  subst hv
  exact wp_step hd rfl h
theorem wp_ishl {a b v : Int} (hd : decode m.2.2.1 pc = .ok (.ishl, 1)) (hv : zI2 zShl a b = v) (h : wp L d m (pc + 1) ls (iV v :: st) M Q) : wp L d m pc ls (iV b :: iV a :: st) M Q := by
  subst hv
  exact wp_step hd rfl h
theorem wp_ishr {a b v : Int} (hd : decode m.2.2.1 pc = .ok (.ishr, 1)) (hv : zI2 zShr a b = v) (h : wp L d m (pc + 1) ls (iV v :: st) M Q) : wp L d m pc ls (iV b :: iV a :: st) M Q := by
  subst hv
  exact wp_step hd rfl h
theorem wp_iushr {a b v : Int} (hd : decode m.2.2.1 pc = .ok (.iushr, 1)) (hv : zI2 zUsr a b = v) (h : wp L d m (pc + 1) ls (iV v :: st) M Q) : wp L d m pc ls (iV b :: iV a :: st) M Q := by
  subst hv
  exact wp_step hd rfl h
theorem wp_idiv {a b v : Int} (hd : decode m.2.2.1 pc = .ok (.idiv, 1)) (hb : ¬ b = 0) (hv : zI2 (· / ·) a b = v) (h : wp L d m (pc + 1) ls (iV v :: st) M Q) : wp L d m pc ls (iV b :: iV a :: st) M Q := by
  subst hv
  exact wp_step hd (by simp only [zEx, zBin, hb, not_false_eq_true, decide_true]; rfl) h
theorem wp_irem {a b v : Int} (hd : decode m.2.2.1 pc = .ok (.irem, 1)) (hb : ¬ b = 0) (hv : zI2 zRem a b = v) (h : wp L d m (pc + 1) ls (iV v :: st) M Q) : wp L d m pc ls (iV b :: iV a :: st) M Q := by
  subst hv
  exact wp_step hd (by simp only [zEx, zBin, hb, not_false_eq_true, decide_true]; rfl) h
theorem wp_ineg {a v : Int} (hd : decode m.2.2.1 pc = .ok (.ineg, 1)) (hv : (-(Int32.ofInt a)).toInt = v) (h : wp L d m (pc + 1) ls (iV v :: st) M Q) : wp L d m pc ls (iV a :: st) M Q := by
  subst hv
  exact wp_step hd rfl h
theorem wp_i2l {a : Int} (hd : decode m.2.2.1 pc = .ok (.i2l, 1)) (h : wp L d m (pc + 1) ls (lV (Int32.ofInt a).toInt64 :: st) M Q) : wp L d m pc ls (iV a :: st) M Q := wp_step hd rfl h
theorem wp_ladd {a b : Int64} (hd : decode m.2.2.1 pc = .ok (.ladd, 1)) (h : wp L d m (pc + 1) ls (lV (a + b) :: st) M Q) : wp L d m pc ls (lV b :: lV a :: st) M Q := wp_step hd rfl h
theorem wp_lmul {a b : Int64} (hd : decode m.2.2.1 pc = .ok (.lmul, 1)) (h : wp L d m (pc + 1) ls (lV (a * b) :: st) M Q) : wp L d m pc ls (lV b :: lV a :: st) M Q := wp_step hd rfl h
theorem wp_lcmp {a b : Int64} (hd : decode m.2.2.1 pc = .ok (.lcmp, 1)) (h : wp L d m (pc + 1) ls (iV (lg_cmp a b).toInt :: st) M Q) : wp L d m pc ls (lV b :: lV a :: st) M Q := wp_step hd rfl h
theorem wp_dup {v : zV} (hd : decode m.2.2.1 pc = .ok (.dup, 1)) (hv : (zCat v == 1) = true) (h : wp L d m (pc + 1) ls (v :: v :: st) M Q) : wp L d m pc ls (v :: st) M Q := wp_step hd (by simp only [zEx, hv]; rfl) h
theorem wp_pop {v : zV} (hd : decode m.2.2.1 pc = .ok (.pop, 1)) (hv : (zCat v == 1) = true) (h : wp L d m (pc + 1) ls st M Q) : wp L d m pc ls (v :: st) M Q := wp_step hd (by simp only [zEx, hv]; rfl) h
theorem wp_dup2 {v w : zV} (hd : decode m.2.2.1 pc = .ok (.dup2, 1)) (hv : (zCat v == 1) = true) (hw : (zCat w == 1) = true) (h : wp L d m (pc + 1) ls (v :: w :: v :: w :: st) M Q) : wp L d m pc ls (v :: w :: st) M Q := wp_step hd (by simp only [zEx, hv, hw]; rfl) h
theorem zJp_at {off : Int} {tgt : Nat} {ls st : List zV} {q : zS} (ht : (pc : Int) + off = (tgt : Int)) : zJp true pc off ls st q = some (.inl (tgt, ls, st, q)) := by
  unfold zJp zNx
  rw [ht]
  rw [if_pos (by simp)]
  rfl
theorem wp_goto {off : Int} {tgt : Nat} (hd : decode m.2.2.1 pc = .ok (.goto off, 3)) (ht : (pc : Int) + off = (tgt : Int)) (h : wp L d m tgt ls st M Q) : wp L d m pc ls st M Q := wp_step hd (zJp_at ht) h
theorem wp_if_eq {a off : Int} {tgt : Nat} (hd : decode m.2.2.1 pc = .ok (.ifCond .eq off, 3)) (ht : (pc : Int) + off = (tgt : Int)) (kt : a = 0 → wp L d m tgt ls st M Q) (kf : ¬ (a = 0) → wp L d m (pc + 3) ls st M Q) : wp L d m pc ls (iV a :: st) M Q := by
  by_cases hc : a = 0
  · refine wp_step hd ?_ (kt hc)
    simp only [zEx]
    rw [if_pos (show zC .eq a 0 = true from decide_eq_true hc)]
    exact zJp_at ht
  · refine wp_step hd ?_ (kf hc)
    simp only [zEx]
    rw [if_neg (show ¬ zC .eq a 0 = true from fun h => hc (of_decide_eq_true h))]
    rfl
theorem wp_icmp_eq {a b off : Int} {tgt : Nat} (hd : decode m.2.2.1 pc = .ok (.if_icmp .eq off, 3)) (ht : (pc : Int) + off = (tgt : Int)) (kt : a = b → wp L d m tgt ls st M Q) (kf : ¬ (a = b) → wp L d m (pc + 3) ls st M Q) : wp L d m pc ls (iV b :: iV a :: st) M Q := by
  by_cases hc : a = b
  · refine wp_step hd ?_ (kt hc)
    simp only [zEx]
    rw [if_pos (show zC .eq a b = true from decide_eq_true hc)]
    exact zJp_at ht
  · refine wp_step hd ?_ (kf hc)
    simp only [zEx]
    rw [if_neg (show ¬ zC .eq a b = true from fun h => hc (of_decide_eq_true h))]
    rfl
theorem wp_if_ne {a off : Int} {tgt : Nat} (hd : decode m.2.2.1 pc = .ok (.ifCond .ne off, 3)) (ht : (pc : Int) + off = (tgt : Int)) (kt : ¬ a = 0 → wp L d m tgt ls st M Q) (kf : ¬ (¬ a = 0) → wp L d m (pc + 3) ls st M Q) : wp L d m pc ls (iV a :: st) M Q := by
  by_cases hc : ¬ a = 0
  · refine wp_step hd ?_ (kt hc)
    simp only [zEx]
    rw [if_pos (show zC .ne a 0 = true from decide_eq_true hc)]
    exact zJp_at ht
  · refine wp_step hd ?_ (kf hc)
    simp only [zEx]
    rw [if_neg (show ¬ zC .ne a 0 = true from fun h => hc (of_decide_eq_true h))]
    rfl
theorem wp_icmp_ne {a b off : Int} {tgt : Nat} (hd : decode m.2.2.1 pc = .ok (.if_icmp .ne off, 3)) (ht : (pc : Int) + off = (tgt : Int)) (kt : ¬ a = b → wp L d m tgt ls st M Q) (kf : ¬ (¬ a = b) → wp L d m (pc + 3) ls st M Q) : wp L d m pc ls (iV b :: iV a :: st) M Q := by
  by_cases hc : ¬ a = b
  · refine wp_step hd ?_ (kt hc)
    simp only [zEx]
    rw [if_pos (show zC .ne a b = true from decide_eq_true hc)]
    exact zJp_at ht
  · refine wp_step hd ?_ (kf hc)
    simp only [zEx]
    rw [if_neg (show ¬ zC .ne a b = true from fun h => hc (of_decide_eq_true h))]
    rfl
theorem wp_if_lt {a off : Int} {tgt : Nat} (hd : decode m.2.2.1 pc = .ok (.ifCond .lt off, 3)) (ht : (pc : Int) + off = (tgt : Int)) (kt : a < 0 → wp L d m tgt ls st M Q) (kf : ¬ (a < 0) → wp L d m (pc + 3) ls st M Q) : wp L d m pc ls (iV a :: st) M Q := by
  by_cases hc : a < 0
  · refine wp_step hd ?_ (kt hc)
    simp only [zEx]
    rw [if_pos (show zC .lt a 0 = true from decide_eq_true hc)]
    exact zJp_at ht
  · refine wp_step hd ?_ (kf hc)
    simp only [zEx]
    rw [if_neg (show ¬ zC .lt a 0 = true from fun h => hc (of_decide_eq_true h))]
    rfl
theorem wp_icmp_lt {a b off : Int} {tgt : Nat} (hd : decode m.2.2.1 pc = .ok (.if_icmp .lt off, 3)) (ht : (pc : Int) + off = (tgt : Int)) (kt : a < b → wp L d m tgt ls st M Q) (kf : ¬ (a < b) → wp L d m (pc + 3) ls st M Q) : wp L d m pc ls (iV b :: iV a :: st) M Q := by
  by_cases hc : a < b
  · refine wp_step hd ?_ (kt hc)
    simp only [zEx]
    rw [if_pos (show zC .lt a b = true from decide_eq_true hc)]
    exact zJp_at ht
  · refine wp_step hd ?_ (kf hc)
    simp only [zEx]
    rw [if_neg (show ¬ zC .lt a b = true from fun h => hc (of_decide_eq_true h))]
    rfl
theorem wp_if_ge {a off : Int} {tgt : Nat} (hd : decode m.2.2.1 pc = .ok (.ifCond .ge off, 3)) (ht : (pc : Int) + off = (tgt : Int)) (kt : 0 ≤ a → wp L d m tgt ls st M Q) (kf : ¬ (0 ≤ a) → wp L d m (pc + 3) ls st M Q) : wp L d m pc ls (iV a :: st) M Q := by
  by_cases hc : 0 ≤ a
  · refine wp_step hd ?_ (kt hc)
    simp only [zEx]
    rw [if_pos (show zC .ge a 0 = true from decide_eq_true hc)]
    exact zJp_at ht
  · refine wp_step hd ?_ (kf hc)
    simp only [zEx]
    rw [if_neg (show ¬ zC .ge a 0 = true from fun h => hc (of_decide_eq_true h))]
    rfl
theorem wp_icmp_ge {a b off : Int} {tgt : Nat} (hd : decode m.2.2.1 pc = .ok (.if_icmp .ge off, 3)) (ht : (pc : Int) + off = (tgt : Int)) (kt : b ≤ a → wp L d m tgt ls st M Q) (kf : ¬ (b ≤ a) → wp L d m (pc + 3) ls st M Q) : wp L d m pc ls (iV b :: iV a :: st) M Q := by
  by_cases hc : b ≤ a
  · refine wp_step hd ?_ (kt hc)
    simp only [zEx]
    rw [if_pos (show zC .ge a b = true from decide_eq_true hc)]
    exact zJp_at ht
  · refine wp_step hd ?_ (kf hc)
    simp only [zEx]
    rw [if_neg (show ¬ zC .ge a b = true from fun h => hc (of_decide_eq_true h))]
    rfl
theorem wp_if_gt {a off : Int} {tgt : Nat} (hd : decode m.2.2.1 pc = .ok (.ifCond .gt off, 3)) (ht : (pc : Int) + off = (tgt : Int)) (kt : 0 < a → wp L d m tgt ls st M Q) (kf : ¬ (0 < a) → wp L d m (pc + 3) ls st M Q) : wp L d m pc ls (iV a :: st) M Q := by
  by_cases hc : 0 < a
  · refine wp_step hd ?_ (kt hc)
    simp only [zEx]
    rw [if_pos (show zC .gt a 0 = true from decide_eq_true hc)]
    exact zJp_at ht
  · refine wp_step hd ?_ (kf hc)
    simp only [zEx]
    rw [if_neg (show ¬ zC .gt a 0 = true from fun h => hc (of_decide_eq_true h))]
    rfl
theorem wp_icmp_gt {a b off : Int} {tgt : Nat} (hd : decode m.2.2.1 pc = .ok (.if_icmp .gt off, 3)) (ht : (pc : Int) + off = (tgt : Int)) (kt : b < a → wp L d m tgt ls st M Q) (kf : ¬ (b < a) → wp L d m (pc + 3) ls st M Q) : wp L d m pc ls (iV b :: iV a :: st) M Q := by
  by_cases hc : b < a
  · refine wp_step hd ?_ (kt hc)
    simp only [zEx]
    rw [if_pos (show zC .gt a b = true from decide_eq_true hc)]
    exact zJp_at ht
  · refine wp_step hd ?_ (kf hc)
    simp only [zEx]
    rw [if_neg (show ¬ zC .gt a b = true from fun h => hc (of_decide_eq_true h))]
    rfl
theorem wp_if_le {a off : Int} {tgt : Nat} (hd : decode m.2.2.1 pc = .ok (.ifCond .le off, 3)) (ht : (pc : Int) + off = (tgt : Int)) (kt : a ≤ 0 → wp L d m tgt ls st M Q) (kf : ¬ (a ≤ 0) → wp L d m (pc + 3) ls st M Q) : wp L d m pc ls (iV a :: st) M Q := by
  by_cases hc : a ≤ 0
  · refine wp_step hd ?_ (kt hc)
    simp only [zEx]
    rw [if_pos (show zC .le a 0 = true from decide_eq_true hc)]
    exact zJp_at ht
  · refine wp_step hd ?_ (kf hc)
    simp only [zEx]
    rw [if_neg (show ¬ zC .le a 0 = true from fun h => hc (of_decide_eq_true h))]
    rfl
theorem wp_icmp_le {a b off : Int} {tgt : Nat} (hd : decode m.2.2.1 pc = .ok (.if_icmp .le off, 3)) (ht : (pc : Int) + off = (tgt : Int)) (kt : a ≤ b → wp L d m tgt ls st M Q) (kf : ¬ (a ≤ b) → wp L d m (pc + 3) ls st M Q) : wp L d m pc ls (iV b :: iV a :: st) M Q := by
  by_cases hc : a ≤ b
  · refine wp_step hd ?_ (kt hc)
    simp only [zEx]
    rw [if_pos (show zC .le a b = true from decide_eq_true hc)]
    exact zJp_at ht
  · refine wp_step hd ?_ (kf hc)
    simp only [zEx]
    rw [if_neg (show ¬ zC .le a b = true from fun h => hc (of_decide_eq_true h))]
    rfl
theorem wp_tableO {a dd lo hi : Int} {offs : Array Int} {len tgt : Nat} (hd : decode m.2.2.1 pc = .ok (.tableswitch dd lo hi offs, len)) (ho : a < lo ∨ hi < a) (ht : (pc : Int) + dd = (tgt : Int)) (h : wp L d m tgt ls st M Q) : wp L d m pc ls (iV a :: st) M Q := by
  refine wp_step hd ?_ h
  simp only [zEx]
  rw [if_pos ho]
  exact zJp_at ht
theorem wp_tableI {a dd lo hi off : Int} {offs : Array Int} {len tgt : Nat} (hd : decode m.2.2.1 pc = .ok (.tableswitch dd lo hi offs, len)) (h1 : lo ≤ a) (h2 : a ≤ hi) (hf : offs[(a - lo).toNat]? = some off) (ht : (pc : Int) + off = (tgt : Int)) (h : wp L d m tgt ls st M Q) : wp L d m pc ls (iV a :: st) M Q := by
  refine wp_step hd ?_ h
  simp only [zEx]
  rw [if_neg (by omega), hf]
  exact zJp_at ht
/-- kinds and sizes of the cells -/
def zkd (L a : Nat) : Option (Nat × Nat) := (zsh (20, L))[a]?
theorem zk_map {a C sz : Nat} (hk : zkd L a = some (C, sz)) : ((zQ L M).1[a]?).map Prod.fst = some C := by
  rw [show (zQ L M).1[a]? = some (C, sz) from hk]; rfl
theorem wp_getI {k C f t a sz : Nat} {fin : Bool} (hd : decode m.2.2.1 pc = .ok (.getfield k, 3)) (hf : zFld m.1 k = some (C, f, t, fin)) (ht : t = 0 ∨ t = 1) (hk : zkd L a = some (C, sz)) (h : wp L d m (pc + 3) ls (iV (M a f) :: st) M Q) : wp L d m pc ls (rV a :: st) M Q := by
  refine wp_step hd ?_ h
  show zGetF pc 3 (zFld m.1 k) ls (rV a :: st) (zQ L M) = _
  rw [hf]
  exact (if_pos (zk_map hk)).trans ((if_neg (by omega)).trans ((if_neg (by omega)).trans rfl))
theorem wp_getR {k C f a sz b : Nat} {fin : Bool} (hd : decode m.2.2.1 pc = .ok (.getfield k, 3)) (hf : zFld m.1 k = some (C, f, 3, fin)) (hk : zkd L a = some (C, sz)) (hb : zK0 a f = (b : Int)) (h : wp L d m (pc + 3) ls (rV b :: st) M Q) : wp L d m pc ls (rV a :: st) M Q := by
  refine wp_step hd ?_ h
  show zGetF pc 3 (zFld m.1 k) ls (rV a :: st) (zQ L M) = _
  rw [hf]
  refine (if_pos (zk_map hk)).trans ((if_pos rfl).trans ?_)
  show zNx (3 == 3 && decide (0 ≤ zK0 a f)) (pc + 3) ls (rV (zK0 a f).toNat :: st) (zQ L M) = _
  rw [hb]
  unfold zNx
  rw [if_pos (by simp)]
  rfl
theorem wp_getL {k C f a sz : Nat} {fin : Bool} (hd : decode m.2.2.1 pc = .ok (.getfield k, 3)) (hf : zFld m.1 k = some (C, f, 2, fin)) (hk : zkd L a = some (C, sz)) (h : wp L d m (pc + 3) ls (lV (zLg (M a f) (M a (f + 1000))) :: st) M Q) : wp L d m pc ls (rV a :: st) M Q := by
  refine wp_step hd ?_ h
  show zGetF pc 3 (zFld m.1 k) ls (rV a :: st) (zQ L M) = _
  rw [hf]
  exact (if_pos (zk_map hk)).trans ((if_neg (by omega)).trans ((if_pos rfl).trans rfl))
theorem wp_putI {k C f a sz : Nat} {x : Int} (hd : decode m.2.2.1 pc = .ok (.putfield k, 3)) (hf : zFld m.1 k = some (C, f, 0, false)) (hk : zkd L a = some (C, sz)) (h4 : 4 ≤ a) (h : wp L d m (pc + 3) ls st (zU M a f x) Q) : wp L d m pc ls (iV x :: rV a :: st) M Q := by
  refine wp_step hd ?_ h
  show zPutF m pc 3 (zFld m.1 k) ls (iV x :: rV a :: st) (zQ L M) = _
  rw [hf]
  exact (if_pos ⟨zk_map hk, h4, Or.inl rfl, rfl⟩).trans rfl
theorem wp_putZ {k C f a sz : Nat} {x : Int} (hd : decode m.2.2.1 pc = .ok (.putfield k, 3)) (hf : zFld m.1 k = some (C, f, 1, false)) (hk : zkd L a = some (C, sz)) (h4 : 4 ≤ a) (hx : x = 0 ∨ x = 1) (h : wp L d m (pc + 3) ls st (zU M a f x) Q) : wp L d m pc ls (iV x :: rV a :: st) M Q := by
  refine wp_step hd ?_ h
  show zPutF m pc 3 (zFld m.1 k) ls (iV x :: rV a :: st) (zQ L M) = _
  rw [hf]
  exact (if_pos ⟨zk_map hk, h4, Or.inr ⟨rfl, hx⟩, rfl⟩).trans rfl
theorem wp_putL {k C f a sz : Nat} {x : Int64} (hd : decode m.2.2.1 pc = .ok (.putfield k, 3)) (hf : zFld m.1 k = some (C, f, 2, false)) (hk : zkd L a = some (C, sz)) (h4 : 4 ≤ a) (h : wp L d m (pc + 3) ls st (zU (zU M a f (zHi x)) a (f + 1000) (zLo x)) Q) : wp L d m pc ls (lV x :: rV a :: st) M Q := by
  refine wp_step hd ?_ h
  show zPutF m pc 3 (zFld m.1 k) ls (lV x :: rV a :: st) (zQ L M) = _
  rw [hf]
  exact (if_pos ⟨zk_map hk, h4, rfl, rfl⟩).trans rfl
theorem wp_getS {k a : Nat} (hd : decode m.2.2.1 pc = .ok (.getstatic k, 3)) (hf : zStat m.1 k = some a) (h : wp L d m (pc + 3) ls (rV a :: st) M Q) : wp L d m pc ls st M Q := by
  refine wp_step hd ?_ h
  simp only [zEx, hf]
  rfl
theorem wp_iald {a n : Nat} {i : Int} (hd : decode m.2.2.1 pc = .ok (.iaload, 1)) (hk : zkd L a = some (20, n)) (h0 : 0 ≤ i) (h1 : i < n) (h : wp L d m (pc + 1) ls (iV (M a i.toNat) :: st) M Q) : wp L d m pc ls (iV i :: rV a :: st) M Q := by
  refine wp_step hd ?_ h
  show zALd pc 1 20 ls (iV i :: rV a :: st) (zQ L M) = _
  have hk' : (zQ L M).1[a]? = some (20, n) := hk
  unfold zALd
  dsimp only
  rw [hk']
  exact (if_pos ⟨rfl, h0, h1⟩).trans rfl
theorem wp_bald {a n : Nat} {i : Int} (hd : decode m.2.2.1 pc = .ok (.baload, 1)) (hk : zkd L a = some (21, n)) (h0 : 0 ≤ i) (h1 : i < n) (h : wp L d m (pc + 1) ls (iV (M a i.toNat) :: st) M Q) : wp L d m pc ls (iV i :: rV a :: st) M Q := by
  refine wp_step hd ?_ h
  show zALd pc 1 21 ls (iV i :: rV a :: st) (zQ L M) = _
  have hk' : (zQ L M).1[a]? = some (21, n) := hk
  unfold zALd
  dsimp only
  rw [hk']
  exact (if_pos ⟨rfl, h0, h1⟩).trans rfl
theorem wp_aald {a n b kd : Nat} {i : Int} (hd : decode m.2.2.1 pc = .ok (.aaload, 1)) (hk : zkd L a = some (kd, n)) (hkd : kd = 22 ∨ kd = 23 ∨ kd = 24) (h0 : 0 ≤ i) (h1 : i < n) (hb : zK0 a i.toNat = (b : Int)) (h : wp L d m (pc + 1) ls (rV b :: st) M Q) : wp L d m pc ls (iV i :: rV a :: st) M Q := by
  refine wp_step hd ?_ h
  show zRLd pc 1 ls (iV i :: rV a :: st) (zQ L M) = _
  have hk' : (zQ L M).1[a]? = some (kd, n) := hk
  have hb' : (zQ L M).2.1 a i.toNat = (b : Int) := hb
  unfold zRLd
  dsimp only
  rw [hk']
  dsimp only
  rw [hb']
  exact (if_pos ⟨hkd, h0, h1, by omega⟩).trans rfl
theorem wp_iast {a n : Nat} {i x : Int} (hd : decode m.2.2.1 pc = .ok (.iastore, 1)) (hk : zkd L a = some (20, n)) (h4 : 4 ≤ a) (h0 : 0 ≤ i) (h1 : i < n) (h : wp L d m (pc + 1) ls st (zU M a i.toNat x) Q) : wp L d m pc ls (iV x :: iV i :: rV a :: st) M Q := by
  refine wp_step hd ?_ h
  show zASt pc 1 20 ls (iV x :: iV i :: rV a :: st) (zQ L M) = _
  have hk' : (zQ L M).1[a]? = some (20, n) := hk
  unfold zASt
  dsimp only
  rw [hk']
  exact (if_pos ⟨rfl, h4, h0, h1, Or.inl rfl⟩).trans rfl
theorem wp_bast {a n : Nat} {i x : Int} (hd : decode m.2.2.1 pc = .ok (.bastore, 1)) (hk : zkd L a = some (21, n)) (h4 : 4 ≤ a) (h0 : 0 ≤ i) (h1 : i < n) (hx : x = 0 ∨ x = 1) (h : wp L d m (pc + 1) ls st (zU M a i.toNat x) Q) : wp L d m pc ls (iV x :: iV i :: rV a :: st) M Q := by
  refine wp_step hd ?_ h
  show zASt pc 1 21 ls (iV x :: iV i :: rV a :: st) (zQ L M) = _
  have hk' : (zQ L M).1[a]? = some (21, n) := hk
  unfold zASt
  dsimp only
  rw [hk']
  exact (if_pos ⟨rfl, h4, h0, h1, Or.inr hx⟩).trans rfl
theorem wp_alen {a n kd : Nat} (hd : decode m.2.2.1 pc = .ok (.arraylength, 1)) (hk : zkd L a = some (kd, n)) (hkd : (kd = 20 ∨ kd = 21 ∨ kd = 22 ∨ kd = 23 ∨ kd = 24) ∧ n < 100000) (h : wp L d m (pc + 1) ls (iV n :: st) M Q) : wp L d m pc ls (rV a :: st) M Q := by
  refine wp_step hd ?_ h
  show zALen pc 1 ls (rV a :: st) (zQ L M) = _
  have hk' : (zQ L M).1[a]? = some (kd, n) := hk
  unfold zALen
  dsimp only
  rw [hk']
  exact (if_pos hkd).trans rfl
theorem wp_callV {k np a sz d' : Nat} {m' : zD} {as rest : List zV} {P : Option zV → zM → Prop} (hd : decode m.2.2.1 pc = .ok (.invokevirtual k, 3)) (hf : zCall m.1 k = some (0, np, m')) (hst : st.take np = as ∧ st.drop np = rV a :: rest) (hcs : decide (zCs rest ≤ 8) = true) (hk : zkd L a = some (m'.1, sz)) (hsl : decide ((zSl (rV a :: as.reverse)).length ≤ m'.2.2.2.1) = true)
    (hle : decide (d' + 1 ≤ d) = true) (hc : wpc L d' m' (rV a :: as.reverse) M P) (h : ∀ r M', P r M' → wp L d m (pc + 3) ls (r.toList ++ rest) M' Q) : wp L d m pc ls st M Q := by
  refine wp_callX hd ?_ hc (of_decide_eq_true hle) h
  show zCallV pc 3 (zCall m.1 k) st (zQ L M) = _
  rw [hf]
  unfold zCallV
  dsimp only
  rw [hst.2]
  dsimp only
  rw [hst.1]
  exact if_pos ⟨rfl, rfl, of_decide_eq_true hcs, zk_map hk, of_decide_eq_true hsl⟩
theorem wp_callS {k np d' : Nat} {m' : zD} {as rest : List zV} {P : Option zV → zM → Prop} (hd : decode m.2.2.1 pc = .ok (.invokestatic k, 3)) (hm : zMth m.1 k = none) (hf : zCall m.1 k = some (1, np, m')) (hst : st.take np = as ∧ st.drop np = rest ∧ decide (np ≤ st.length) = true) (hcs : decide (zCs rest ≤ 8) = true) (hsl : decide ((zSl as.reverse).length ≤ m'.2.2.2.1) = true)
    (hle : decide (d' + 1 ≤ d) = true) (hc : wpc L d' m' as.reverse M P) (h : ∀ r M', P r M' → wp L d m (pc + 3) ls (r.toList ++ rest) M' Q) : wp L d m pc ls st M Q := by
  refine wp_callX hd ?_ hc (of_decide_eq_true hle) h
  show (match zMth m.1 k with
    | some a => zMathS pc 3 a ls st (zQ L M)
    | none => zCallS pc 3 (zCall m.1 k) st (zQ L M)) = _
  rw [hm, hf]
  unfold zCallS
  dsimp only
  rw [hst.1, hst.2.1]
  exact if_pos ⟨rfl, rfl, of_decide_eq_true hcs, of_decide_eq_true hst.2.2, of_decide_eq_true hsl⟩
theorem wp_max {k : Nat} {a b : Int} (hd : decode m.2.2.1 pc = .ok (.invokestatic k, 3)) (hm : zMth m.1 k = some 0) (hcs : decide (zCs st ≤ 8) = true) (h : wp L d m (pc + 3) ls (iV (if a < b then b else a) :: st) M Q) : wp L d m pc ls (iV b :: iV a :: st) M Q := by
  refine wp_step hd ?_ h
  simp only [zEx, hm, zMathS, hcs]
  rfl
theorem wp_min {k : Nat} {a b : Int} (hd : decode m.2.2.1 pc = .ok (.invokestatic k, 3)) (hm : zMth m.1 k = some 1) (hcs : decide (zCs st ≤ 8) = true) (h : wp L d m (pc + 3) ls (iV (if b < a then b else a) :: st) M Q) : wp L d m pc ls (iV b :: iV a :: st) M Q := by
  refine wp_step hd ?_ h
  simp only [zEx, hm, zMathS, hcs]
  rfl
theorem wp_abs {k : Nat} {a : Int} (hd : decode m.2.2.1 pc = .ok (.invokestatic k, 3)) (hm : zMth m.1 k = some 2) (hcs : decide (zCs st ≤ 8) = true) (h1 : -2147483647 ≤ a) (h2 : a ≤ 2147483647) (h : wp L d m (pc + 3) ls (iV (if 0 ≤ a then a else 0 - a) :: st) M Q) : wp L d m pc ls (iV a :: st) M Q := by
  refine wp_step hd ?_ h
  have e : (0 - Int32.ofInt a).toInt = 0 - a := by
    rw [← z_0, z_sub, z_of (by unfold zR; omega)]
  simp only [zEx, hm, zMathS, hcs, e]
  rfl
theorem wp_ireturn {a : Int} (hd : decode m.2.2.1 pc = .ok (.ireturn, 1)) (hr : m.2.2.2.2 = some .int) (h : Q (some (iV a)) M) : wp L d m pc ls [iV a] M Q := by
  refine wp_retX hd ?_ h
  show zRet m 1 [iV a] = _
  exact if_pos ⟨rfl, Or.inl hr⟩
theorem wp_zreturn {a : Int} (hd : decode m.2.2.1 pc = .ok (.ireturn, 1)) (hr : m.2.2.2.2 = some .boolean) (ha : a = 0 ∨ a = 1) (h : Q (some (iV a)) M) : wp L d m pc ls [iV a] M Q := by
  refine wp_retX hd ?_ h
  show zRet m 1 [iV a] = _
  exact if_pos ⟨rfl, Or.inr ⟨hr, ha⟩⟩
theorem wp_lreturn {a : Int64} (hd : decode m.2.2.1 pc = .ok (.lreturn, 1)) (hr : m.2.2.2.2 = some .long) (h : Q (some (lV a)) M) : wp L d m pc ls [lV a] M Q := by
  refine wp_retX hd ?_ h
  exact if_pos ⟨rfl, hr⟩
theorem wp_areturn {a : Nat} {n : String} (hd : decode m.2.2.1 pc = .ok (.areturn, 1)) (hr : m.2.2.2.2 = some (.object n)) (h : Q (some (rV a)) M) : wp L d m pc ls [rV a] M Q := by
  refine wp_retX hd ?_ h
  simp [zEx, hr]
theorem wp_return_ (hd : decode m.2.2.1 pc = .ok (.return_, 1)) (hr : m.2.2.2.2 = none) (h : Q none M) : wp L d m pc ls [] M Q := by
  refine wp_retX hd ?_ h
  exact if_pos ⟨rfl, hr⟩
end ZWP
end
section
/-! rules by shape, and the cells' facts -/
section ZWR
variable {L d pc : Nat} {m : zD} {st : List zV} {M : zM} {Q : Option zV → zM → Prop}
theorem wp_ist0 {x0 : zV} {t : List zV} {y : Int} (hd : decode m.2.2.1 pc = .ok (.istore_n 0, 1)) (h : wp L d m (pc + 1) (iV y :: t) st M Q) : wp L d m pc (x0 :: t) (iV y :: st) M Q := by
  refine wp_istore_n hd ?_ rfl h
  simp [zFree]
theorem wp_ast0 {x0 : zV} {t : List zV} {y : Nat} (hd : decode m.2.2.1 pc = .ok (.astore_n 0, 1)) (h : wp L d m (pc + 1) (rV y :: t) st M Q) : wp L d m pc (x0 :: t) (rV y :: st) M Q := by
  refine wp_astore_n hd ?_ rfl h
  simp [zFree]
theorem wp_iinc0 {t : List zV} {a n : Int} (hd : decode m.2.2.1 pc = .ok (.iinc 0 n, 3)) (h1 : -2147483648 ≤ a + n) (h2 : a + n ≤ 2147483647) (h : wp L d m (pc + 3) (iV (a + n) :: t) st M Q) : wp L d m pc (iV a :: t) st M Q := by
  refine wp_iinc hd rfl ?_ h1 h2 rfl h
  simp [zFree]
theorem wp_ist1 {x0 x1 : zV} {t : List zV} {y : Int} (hd : decode m.2.2.1 pc = .ok (.istore_n 1, 1)) (hf : (zCat x0 == 1) = true) (h : wp L d m (pc + 1) (x0 :: iV y :: t) st M Q) : wp L d m pc (x0 :: x1 :: t) (iV y :: st) M Q := by
  refine wp_istore_n hd ?_ rfl h
  simp [zFree, hf]
theorem wp_ast1 {x0 x1 : zV} {t : List zV} {y : Nat} (hd : decode m.2.2.1 pc = .ok (.astore_n 1, 1)) (hf : (zCat x0 == 1) = true) (h : wp L d m (pc + 1) (x0 :: rV y :: t) st M Q) : wp L d m pc (x0 :: x1 :: t) (rV y :: st) M Q := by
  refine wp_astore_n hd ?_ rfl h
  simp [zFree, hf]
theorem wp_iinc1 {x0 : zV} {t : List zV} {a n : Int} (hd : decode m.2.2.1 pc = .ok (.iinc 1 n, 3)) (hf : (zCat x0 == 1) = true) (h1 : -2147483648 ≤ a + n) (h2 : a + n ≤ 2147483647) (h : wp L d m (pc + 3) (x0 :: iV (a + n) :: t) st M Q) : wp L d m pc (x0 :: iV a :: t) st M Q := by
  refine wp_iinc hd rfl ?_ h1 h2 rfl h
  simp [zFree, hf]
theorem wp_ist2 {x0 x1 x2 : zV} {t : List zV} {y : Int} (hd : decode m.2.2.1 pc = .ok (.istore_n 2, 1)) (hf : (zCat x1 == 1) = true) (h : wp L d m (pc + 1) (x0 :: x1 :: iV y :: t) st M Q) : wp L d m pc (x0 :: x1 :: x2 :: t) (iV y :: st) M Q := by
  refine wp_istore_n hd ?_ rfl h
  simp [zFree, hf]
theorem wp_ast2 {x0 x1 x2 : zV} {t : List zV} {y : Nat} (hd : decode m.2.2.1 pc = .ok (.astore_n 2, 1)) (hf : (zCat x1 == 1) = true) (h : wp L d m (pc + 1) (x0 :: x1 :: rV y :: t) st M Q) : wp L d m pc (x0 :: x1 :: x2 :: t) (rV y :: st) M Q := by
  refine wp_astore_n hd ?_ rfl h
  simp [zFree, hf]
theorem wp_iinc2 {x0 x1 : zV} {t : List zV} {a n : Int} (hd : decode m.2.2.1 pc = .ok (.iinc 2 n, 3)) (hf : (zCat x1 == 1) = true) (h1 : -2147483648 ≤ a + n) (h2 : a + n ≤ 2147483647) (h : wp L d m (pc + 3) (x0 :: x1 :: iV (a + n) :: t) st M Q) : wp L d m pc (x0 :: x1 :: iV a :: t) st M Q := by
  refine wp_iinc hd rfl ?_ h1 h2 rfl h
  simp [zFree, hf]
theorem wp_ist3 {x0 x1 x2 x3 : zV} {t : List zV} {y : Int} (hd : decode m.2.2.1 pc = .ok (.istore_n 3, 1)) (hf : (zCat x2 == 1) = true) (h : wp L d m (pc + 1) (x0 :: x1 :: x2 :: iV y :: t) st M Q) : wp L d m pc (x0 :: x1 :: x2 :: x3 :: t) (iV y :: st) M Q := by
  refine wp_istore_n hd ?_ rfl h
  simp [zFree, hf]
  show (3 : Nat) < _
  omega
theorem wp_ast3 {x0 x1 x2 x3 : zV} {t : List zV} {y : Nat} (hd : decode m.2.2.1 pc = .ok (.astore_n 3, 1)) (hf : (zCat x2 == 1) = true) (h : wp L d m (pc + 1) (x0 :: x1 :: x2 :: rV y :: t) st M Q) : wp L d m pc (x0 :: x1 :: x2 :: x3 :: t) (rV y :: st) M Q := by
  refine wp_astore_n hd ?_ rfl h
  simp [zFree, hf]
  show (3 : Nat) < _
  omega
theorem wp_iinc3 {x0 x1 x2 : zV} {t : List zV} {a n : Int} (hd : decode m.2.2.1 pc = .ok (.iinc 3 n, 3)) (hf : (zCat x2 == 1) = true) (h1 : -2147483648 ≤ a + n) (h2 : a + n ≤ 2147483647) (h : wp L d m (pc + 3) (x0 :: x1 :: x2 :: iV (a + n) :: t) st M Q) : wp L d m pc (x0 :: x1 :: x2 :: iV a :: t) st M Q := by
  refine wp_iinc hd rfl ?_ h1 h2 rfl h
  simp [zFree, hf]
theorem wp_ist4 {x0 x1 x2 x3 x4 : zV} {t : List zV} {y : Int} (hd : decode m.2.2.1 pc = .ok (.istore 4, 2)) (hf : (zCat x3 == 1) = true) (h : wp L d m (pc + 2) (x0 :: x1 :: x2 :: x3 :: iV y :: t) st M Q) : wp L d m pc (x0 :: x1 :: x2 :: x3 :: x4 :: t) (iV y :: st) M Q := by
  refine wp_istore hd ?_ rfl h
  simp [zFree, hf]
theorem wp_ast4 {x0 x1 x2 x3 x4 : zV} {t : List zV} {y : Nat} (hd : decode m.2.2.1 pc = .ok (.astore 4, 2)) (hf : (zCat x3 == 1) = true) (h : wp L d m (pc + 2) (x0 :: x1 :: x2 :: x3 :: rV y :: t) st M Q) : wp L d m pc (x0 :: x1 :: x2 :: x3 :: x4 :: t) (rV y :: st) M Q := by
  refine wp_astore hd ?_ rfl h
  simp [zFree, hf]
theorem wp_iinc4 {x0 x1 x2 x3 : zV} {t : List zV} {a n : Int} (hd : decode m.2.2.1 pc = .ok (.iinc 4 n, 3)) (hf : (zCat x3 == 1) = true) (h1 : -2147483648 ≤ a + n) (h2 : a + n ≤ 2147483647) (h : wp L d m (pc + 3) (x0 :: x1 :: x2 :: x3 :: iV (a + n) :: t) st M Q) : wp L d m pc (x0 :: x1 :: x2 :: x3 :: iV a :: t) st M Q := by
  refine wp_iinc hd rfl ?_ h1 h2 rfl h
  simp [zFree, hf]
theorem wp_ist5 {x0 x1 x2 x3 x4 x5 : zV} {t : List zV} {y : Int} (hd : decode m.2.2.1 pc = .ok (.istore 5, 2)) (hf : (zCat x4 == 1) = true) (h : wp L d m (pc + 2) (x0 :: x1 :: x2 :: x3 :: x4 :: iV y :: t) st M Q) : wp L d m pc (x0 :: x1 :: x2 :: x3 :: x4 :: x5 :: t) (iV y :: st) M Q := by
  refine wp_istore hd ?_ rfl h
  simp [zFree, hf]
theorem wp_ast5 {x0 x1 x2 x3 x4 x5 : zV} {t : List zV} {y : Nat} (hd : decode m.2.2.1 pc = .ok (.astore 5, 2)) (hf : (zCat x4 == 1) = true) (h : wp L d m (pc + 2) (x0 :: x1 :: x2 :: x3 :: x4 :: rV y :: t) st M Q) : wp L d m pc (x0 :: x1 :: x2 :: x3 :: x4 :: x5 :: t) (rV y :: st) M Q := by
  refine wp_astore hd ?_ rfl h
  simp [zFree, hf]
theorem wp_iinc5 {x0 x1 x2 x3 x4 : zV} {t : List zV} {a n : Int} (hd : decode m.2.2.1 pc = .ok (.iinc 5 n, 3)) (hf : (zCat x4 == 1) = true) (h1 : -2147483648 ≤ a + n) (h2 : a + n ≤ 2147483647) (h : wp L d m (pc + 3) (x0 :: x1 :: x2 :: x3 :: x4 :: iV (a + n) :: t) st M Q) : wp L d m pc (x0 :: x1 :: x2 :: x3 :: x4 :: iV a :: t) st M Q := by
  refine wp_iinc hd rfl ?_ h1 h2 rfl h
  simp [zFree, hf]
theorem wp_ist6 {x0 x1 x2 x3 x4 x5 x6 : zV} {t : List zV} {y : Int} (hd : decode m.2.2.1 pc = .ok (.istore 6, 2)) (hf : (zCat x5 == 1) = true) (h : wp L d m (pc + 2) (x0 :: x1 :: x2 :: x3 :: x4 :: x5 :: iV y :: t) st M Q) : wp L d m pc (x0 :: x1 :: x2 :: x3 :: x4 :: x5 :: x6 :: t) (iV y :: st) M Q := by
  refine wp_istore hd ?_ rfl h
  simp [zFree, hf]
theorem wp_ast6 {x0 x1 x2 x3 x4 x5 x6 : zV} {t : List zV} {y : Nat} (hd : decode m.2.2.1 pc = .ok (.astore 6, 2)) (hf : (zCat x5 == 1) = true) (h : wp L d m (pc + 2) (x0 :: x1 :: x2 :: x3 :: x4 :: x5 :: rV y :: t) st M Q) : wp L d m pc (x0 :: x1 :: x2 :: x3 :: x4 :: x5 :: x6 :: t) (rV y :: st) M Q := by
  refine wp_astore hd ?_ rfl h
  simp [zFree, hf]
theorem wp_iinc6 {x0 x1 x2 x3 x4 x5 : zV} {t : List zV} {a n : Int} (hd : decode m.2.2.1 pc = .ok (.iinc 6 n, 3)) (hf : (zCat x5 == 1) = true) (h1 : -2147483648 ≤ a + n) (h2 : a + n ≤ 2147483647) (h : wp L d m (pc + 3) (x0 :: x1 :: x2 :: x3 :: x4 :: x5 :: iV (a + n) :: t) st M Q) : wp L d m pc (x0 :: x1 :: x2 :: x3 :: x4 :: x5 :: iV a :: t) st M Q := by
  refine wp_iinc hd rfl ?_ h1 h2 rfl h
  simp [zFree, hf]
theorem wp_ist7 {x0 x1 x2 x3 x4 x5 x6 x7 : zV} {t : List zV} {y : Int} (hd : decode m.2.2.1 pc = .ok (.istore 7, 2)) (hf : (zCat x6 == 1) = true) (h : wp L d m (pc + 2) (x0 :: x1 :: x2 :: x3 :: x4 :: x5 :: x6 :: iV y :: t) st M Q) : wp L d m pc (x0 :: x1 :: x2 :: x3 :: x4 :: x5 :: x6 :: x7 :: t) (iV y :: st) M Q := by
  refine wp_istore hd ?_ rfl h
  simp [zFree, hf]
theorem wp_ast7 {x0 x1 x2 x3 x4 x5 x6 x7 : zV} {t : List zV} {y : Nat} (hd : decode m.2.2.1 pc = .ok (.astore 7, 2)) (hf : (zCat x6 == 1) = true) (h : wp L d m (pc + 2) (x0 :: x1 :: x2 :: x3 :: x4 :: x5 :: x6 :: rV y :: t) st M Q) : wp L d m pc (x0 :: x1 :: x2 :: x3 :: x4 :: x5 :: x6 :: x7 :: t) (rV y :: st) M Q := by
  refine wp_astore hd ?_ rfl h
  simp [zFree, hf]
theorem wp_iinc7 {x0 x1 x2 x3 x4 x5 x6 : zV} {t : List zV} {a n : Int} (hd : decode m.2.2.1 pc = .ok (.iinc 7 n, 3)) (hf : (zCat x6 == 1) = true) (h1 : -2147483648 ≤ a + n) (h2 : a + n ≤ 2147483647) (h : wp L d m (pc + 3) (x0 :: x1 :: x2 :: x3 :: x4 :: x5 :: x6 :: iV (a + n) :: t) st M Q) : wp L d m pc (x0 :: x1 :: x2 :: x3 :: x4 :: x5 :: x6 :: iV a :: t) st M Q := by
  refine wp_iinc hd rfl ?_ h1 h2 rfl h
  simp [zFree, hf]
theorem wp_ist8 {x0 x1 x2 x3 x4 x5 x6 x7 x8 : zV} {t : List zV} {y : Int} (hd : decode m.2.2.1 pc = .ok (.istore 8, 2)) (hf : (zCat x7 == 1) = true) (h : wp L d m (pc + 2) (x0 :: x1 :: x2 :: x3 :: x4 :: x5 :: x6 :: x7 :: iV y :: t) st M Q) : wp L d m pc (x0 :: x1 :: x2 :: x3 :: x4 :: x5 :: x6 :: x7 :: x8 :: t) (iV y :: st) M Q := by
  refine wp_istore hd ?_ rfl h
  simp [zFree, hf]
theorem wp_ast8 {x0 x1 x2 x3 x4 x5 x6 x7 x8 : zV} {t : List zV} {y : Nat} (hd : decode m.2.2.1 pc = .ok (.astore 8, 2)) (hf : (zCat x7 == 1) = true) (h : wp L d m (pc + 2) (x0 :: x1 :: x2 :: x3 :: x4 :: x5 :: x6 :: x7 :: rV y :: t) st M Q) : wp L d m pc (x0 :: x1 :: x2 :: x3 :: x4 :: x5 :: x6 :: x7 :: x8 :: t) (rV y :: st) M Q := by
  refine wp_astore hd ?_ rfl h
  simp [zFree, hf]
theorem wp_iinc8 {x0 x1 x2 x3 x4 x5 x6 x7 : zV} {t : List zV} {a n : Int} (hd : decode m.2.2.1 pc = .ok (.iinc 8 n, 3)) (hf : (zCat x7 == 1) = true) (h1 : -2147483648 ≤ a + n) (h2 : a + n ≤ 2147483647) (h : wp L d m (pc + 3) (x0 :: x1 :: x2 :: x3 :: x4 :: x5 :: x6 :: x7 :: iV (a + n) :: t) st M Q) : wp L d m pc (x0 :: x1 :: x2 :: x3 :: x4 :: x5 :: x6 :: x7 :: iV a :: t) st M Q := by
  refine wp_iinc hd rfl ?_ h1 h2 rfl h
  simp [zFree, hf]
theorem wp_ist9 {x0 x1 x2 x3 x4 x5 x6 x7 x8 x9 : zV} {t : List zV} {y : Int} (hd : decode m.2.2.1 pc = .ok (.istore 9, 2)) (hf : (zCat x8 == 1) = true) (h : wp L d m (pc + 2) (x0 :: x1 :: x2 :: x3 :: x4 :: x5 :: x6 :: x7 :: x8 :: iV y :: t) st M Q) : wp L d m pc (x0 :: x1 :: x2 :: x3 :: x4 :: x5 :: x6 :: x7 :: x8 :: x9 :: t) (iV y :: st) M Q := by
  refine wp_istore hd ?_ rfl h
  simp [zFree, hf]
theorem wp_ast9 {x0 x1 x2 x3 x4 x5 x6 x7 x8 x9 : zV} {t : List zV} {y : Nat} (hd : decode m.2.2.1 pc = .ok (.astore 9, 2)) (hf : (zCat x8 == 1) = true) (h : wp L d m (pc + 2) (x0 :: x1 :: x2 :: x3 :: x4 :: x5 :: x6 :: x7 :: x8 :: rV y :: t) st M Q) : wp L d m pc (x0 :: x1 :: x2 :: x3 :: x4 :: x5 :: x6 :: x7 :: x8 :: x9 :: t) (rV y :: st) M Q := by
  refine wp_astore hd ?_ rfl h
  simp [zFree, hf]
theorem wp_iinc9 {x0 x1 x2 x3 x4 x5 x6 x7 x8 : zV} {t : List zV} {a n : Int} (hd : decode m.2.2.1 pc = .ok (.iinc 9 n, 3)) (hf : (zCat x8 == 1) = true) (h1 : -2147483648 ≤ a + n) (h2 : a + n ≤ 2147483647) (h : wp L d m (pc + 3) (x0 :: x1 :: x2 :: x3 :: x4 :: x5 :: x6 :: x7 :: x8 :: iV (a + n) :: t) st M Q) : wp L d m pc (x0 :: x1 :: x2 :: x3 :: x4 :: x5 :: x6 :: x7 :: x8 :: iV a :: t) st M Q := by
  refine wp_iinc hd rfl ?_ h1 h2 rfl h
  simp [zFree, hf]
theorem wp_ist10 {x0 x1 x2 x3 x4 x5 x6 x7 x8 x9 x10 : zV} {t : List zV} {y : Int} (hd : decode m.2.2.1 pc = .ok (.istore 10, 2)) (hf : (zCat x9 == 1) = true) (h : wp L d m (pc + 2) (x0 :: x1 :: x2 :: x3 :: x4 :: x5 :: x6 :: x7 :: x8 :: x9 :: iV y :: t) st M Q) : wp L d m pc (x0 :: x1 :: x2 :: x3 :: x4 :: x5 :: x6 :: x7 :: x8 :: x9 :: x10 :: t) (iV y :: st) M Q := by
  refine wp_istore hd ?_ rfl h
  simp [zFree, hf]
theorem wp_ast10 {x0 x1 x2 x3 x4 x5 x6 x7 x8 x9 x10 : zV} {t : List zV} {y : Nat} (hd : decode m.2.2.1 pc = .ok (.astore 10, 2)) (hf : (zCat x9 == 1) = true) (h : wp L d m (pc + 2) (x0 :: x1 :: x2 :: x3 :: x4 :: x5 :: x6 :: x7 :: x8 :: x9 :: rV y :: t) st M Q) : wp L d m pc (x0 :: x1 :: x2 :: x3 :: x4 :: x5 :: x6 :: x7 :: x8 :: x9 :: x10 :: t) (rV y :: st) M Q := by
  refine wp_astore hd ?_ rfl h
  simp [zFree, hf]
theorem wp_iinc10 {x0 x1 x2 x3 x4 x5 x6 x7 x8 x9 : zV} {t : List zV} {a n : Int} (hd : decode m.2.2.1 pc = .ok (.iinc 10 n, 3)) (hf : (zCat x9 == 1) = true) (h1 : -2147483648 ≤ a + n) (h2 : a + n ≤ 2147483647) (h : wp L d m (pc + 3) (x0 :: x1 :: x2 :: x3 :: x4 :: x5 :: x6 :: x7 :: x8 :: x9 :: iV (a + n) :: t) st M Q) : wp L d m pc (x0 :: x1 :: x2 :: x3 :: x4 :: x5 :: x6 :: x7 :: x8 :: x9 :: iV a :: t) st M Q := by
  refine wp_iinc hd rfl ?_ h1 h2 rfl h
  simp [zFree, hf]
theorem wp_ist11 {x0 x1 x2 x3 x4 x5 x6 x7 x8 x9 x10 x11 : zV} {t : List zV} {y : Int} (hd : decode m.2.2.1 pc = .ok (.istore 11, 2)) (hf : (zCat x10 == 1) = true) (h : wp L d m (pc + 2) (x0 :: x1 :: x2 :: x3 :: x4 :: x5 :: x6 :: x7 :: x8 :: x9 :: x10 :: iV y :: t) st M Q) : wp L d m pc (x0 :: x1 :: x2 :: x3 :: x4 :: x5 :: x6 :: x7 :: x8 :: x9 :: x10 :: x11 :: t) (iV y :: st) M Q := by
  refine wp_istore hd ?_ rfl h
  simp [zFree, hf]
theorem wp_ast11 {x0 x1 x2 x3 x4 x5 x6 x7 x8 x9 x10 x11 : zV} {t : List zV} {y : Nat} (hd : decode m.2.2.1 pc = .ok (.astore 11, 2)) (hf : (zCat x10 == 1) = true) (h : wp L d m (pc + 2) (x0 :: x1 :: x2 :: x3 :: x4 :: x5 :: x6 :: x7 :: x8 :: x9 :: x10 :: rV y :: t) st M Q) : wp L d m pc (x0 :: x1 :: x2 :: x3 :: x4 :: x5 :: x6 :: x7 :: x8 :: x9 :: x10 :: x11 :: t) (rV y :: st) M Q := by
  refine wp_astore hd ?_ rfl h
  simp [zFree, hf]
theorem wp_iinc11 {x0 x1 x2 x3 x4 x5 x6 x7 x8 x9 x10 : zV} {t : List zV} {a n : Int} (hd : decode m.2.2.1 pc = .ok (.iinc 11 n, 3)) (hf : (zCat x10 == 1) = true) (h1 : -2147483648 ≤ a + n) (h2 : a + n ≤ 2147483647) (h : wp L d m (pc + 3) (x0 :: x1 :: x2 :: x3 :: x4 :: x5 :: x6 :: x7 :: x8 :: x9 :: x10 :: iV (a + n) :: t) st M Q) : wp L d m pc (x0 :: x1 :: x2 :: x3 :: x4 :: x5 :: x6 :: x7 :: x8 :: x9 :: x10 :: iV a :: t) st M Q := by
  refine wp_iinc hd rfl ?_ h1 h2 rfl h
  simp [zFree, hf]
theorem wp_ist12 {x0 x1 x2 x3 x4 x5 x6 x7 x8 x9 x10 x11 x12 : zV} {t : List zV} {y : Int} (hd : decode m.2.2.1 pc = .ok (.istore 12, 2)) (hf : (zCat x11 == 1) = true) (h : wp L d m (pc + 2) (x0 :: x1 :: x2 :: x3 :: x4 :: x5 :: x6 :: x7 :: x8 :: x9 :: x10 :: x11 :: iV y :: t) st M Q) : wp L d m pc (x0 :: x1 :: x2 :: x3 :: x4 :: x5 :: x6 :: x7 :: x8 :: x9 :: x10 :: x11 :: x12 :: t) (iV y :: st) M Q := by
  refine wp_istore hd ?_ rfl h
  simp [zFree, hf]
theorem wp_ast12 {x0 x1 x2 x3 x4 x5 x6 x7 x8 x9 x10 x11 x12 : zV} {t : List zV} {y : Nat} (hd : decode m.2.2.1 pc = .ok (.astore 12, 2)) (hf : (zCat x11 == 1) = true) (h : wp L d m (pc + 2) (x0 :: x1 :: x2 :: x3 :: x4 :: x5 :: x6 :: x7 :: x8 :: x9 :: x10 :: x11 :: rV y :: t) st M Q) : wp L d m pc (x0 :: x1 :: x2 :: x3 :: x4 :: x5 :: x6 :: x7 :: x8 :: x9 :: x10 :: x11 :: x12 :: t) (rV y :: st) M Q := by
  refine wp_astore hd ?_ rfl h
  simp [zFree, hf]
theorem wp_iinc12 {x0 x1 x2 x3 x4 x5 x6 x7 x8 x9 x10 x11 : zV} {t : List zV} {a n : Int} (hd : decode m.2.2.1 pc = .ok (.iinc 12 n, 3)) (hf : (zCat x11 == 1) = true) (h1 : -2147483648 ≤ a + n) (h2 : a + n ≤ 2147483647) (h : wp L d m (pc + 3) (x0 :: x1 :: x2 :: x3 :: x4 :: x5 :: x6 :: x7 :: x8 :: x9 :: x10 :: x11 :: iV (a + n) :: t) st M Q) : wp L d m pc (x0 :: x1 :: x2 :: x3 :: x4 :: x5 :: x6 :: x7 :: x8 :: x9 :: x10 :: x11 :: iV a :: t) st M Q := by
  refine wp_iinc hd rfl ?_ h1 h2 rfl h
  simp [zFree, hf]
theorem wp_lst0 {x0 x1 : zV} {t : List zV} {y : Int64} (hd : decode m.2.2.1 pc = .ok (.lstore_n 0, 1)) (h : wp L d m (pc + 1) (lV y :: uV :: t) st M Q) : wp L d m pc (x0 :: x1 :: t) (lV y :: st) M Q := by
  refine wp_lstore_n hd ?_ rfl h
  simp [zFree]
theorem wp_lst1 {x0 x1 x2 : zV} {t : List zV} {y : Int64} (hd : decode m.2.2.1 pc = .ok (.lstore_n 1, 1)) (hf : (zCat x0 == 1) = true) (h : wp L d m (pc + 1) (x0 :: lV y :: uV :: t) st M Q) : wp L d m pc (x0 :: x1 :: x2 :: t) (lV y :: st) M Q := by
  refine wp_lstore_n hd ?_ rfl h
  simp [zFree, hf]
theorem wp_lst2 {x0 x1 x2 x3 : zV} {t : List zV} {y : Int64} (hd : decode m.2.2.1 pc = .ok (.lstore_n 2, 1)) (hf : (zCat x1 == 1) = true) (h : wp L d m (pc + 1) (x0 :: x1 :: lV y :: uV :: t) st M Q) : wp L d m pc (x0 :: x1 :: x2 :: x3 :: t) (lV y :: st) M Q := by
  refine wp_lstore_n hd ?_ rfl h
  simp [zFree, hf]
theorem wp_lst3 {x0 x1 x2 x3 x4 : zV} {t : List zV} {y : Int64} (hd : decode m.2.2.1 pc = .ok (.lstore_n 3, 1)) (hf : (zCat x2 == 1) = true) (h : wp L d m (pc + 1) (x0 :: x1 :: x2 :: lV y :: uV :: t) st M Q) : wp L d m pc (x0 :: x1 :: x2 :: x3 :: x4 :: t) (lV y :: st) M Q := by
  refine wp_lstore_n hd ?_ rfl h
  simp [zFree, hf]
  show (3 : Nat) < _
  omega
theorem wp_lst4 {x0 x1 x2 x3 x4 x5 : zV} {t : List zV} {y : Int64} (hd : decode m.2.2.1 pc = .ok (.lstore 4, 2)) (hf : (zCat x3 == 1) = true) (h : wp L d m (pc + 2) (x0 :: x1 :: x2 :: x3 :: lV y :: uV :: t) st M Q) : wp L d m pc (x0 :: x1 :: x2 :: x3 :: x4 :: x5 :: t) (lV y :: st) M Q := by
  refine wp_lstore hd ?_ rfl h
  simp [zFree, hf]
theorem wp_lst5 {x0 x1 x2 x3 x4 x5 x6 : zV} {t : List zV} {y : Int64} (hd : decode m.2.2.1 pc = .ok (.lstore 5, 2)) (hf : (zCat x4 == 1) = true) (h : wp L d m (pc + 2) (x0 :: x1 :: x2 :: x3 :: x4 :: lV y :: uV :: t) st M Q) : wp L d m pc (x0 :: x1 :: x2 :: x3 :: x4 :: x5 :: x6 :: t) (lV y :: st) M Q := by
  refine wp_lstore hd ?_ rfl h
  simp [zFree, hf]
theorem wp_lst6 {x0 x1 x2 x3 x4 x5 x6 x7 : zV} {t : List zV} {y : Int64} (hd : decode m.2.2.1 pc = .ok (.lstore 6, 2)) (hf : (zCat x5 == 1) = true) (h : wp L d m (pc + 2) (x0 :: x1 :: x2 :: x3 :: x4 :: x5 :: lV y :: uV :: t) st M Q) : wp L d m pc (x0 :: x1 :: x2 :: x3 :: x4 :: x5 :: x6 :: x7 :: t) (lV y :: st) M Q := by
  refine wp_lstore hd ?_ rfl h
  simp [zFree, hf]
theorem wp_lst7 {x0 x1 x2 x3 x4 x5 x6 x7 x8 : zV} {t : List zV} {y : Int64} (hd : decode m.2.2.1 pc = .ok (.lstore 7, 2)) (hf : (zCat x6 == 1) = true) (h : wp L d m (pc + 2) (x0 :: x1 :: x2 :: x3 :: x4 :: x5 :: x6 :: lV y :: uV :: t) st M Q) : wp L d m pc (x0 :: x1 :: x2 :: x3 :: x4 :: x5 :: x6 :: x7 :: x8 :: t) (lV y :: st) M Q := by
  refine wp_lstore hd ?_ rfl h
  simp [zFree, hf]
theorem wp_lst8 {x0 x1 x2 x3 x4 x5 x6 x7 x8 x9 : zV} {t : List zV} {y : Int64} (hd : decode m.2.2.1 pc = .ok (.lstore 8, 2)) (hf : (zCat x7 == 1) = true) (h : wp L d m (pc + 2) (x0 :: x1 :: x2 :: x3 :: x4 :: x5 :: x6 :: x7 :: lV y :: uV :: t) st M Q) : wp L d m pc (x0 :: x1 :: x2 :: x3 :: x4 :: x5 :: x6 :: x7 :: x8 :: x9 :: t) (lV y :: st) M Q := by
  refine wp_lstore hd ?_ rfl h
  simp [zFree, hf]
theorem wp_lst9 {x0 x1 x2 x3 x4 x5 x6 x7 x8 x9 x10 : zV} {t : List zV} {y : Int64} (hd : decode m.2.2.1 pc = .ok (.lstore 9, 2)) (hf : (zCat x8 == 1) = true) (h : wp L d m (pc + 2) (x0 :: x1 :: x2 :: x3 :: x4 :: x5 :: x6 :: x7 :: x8 :: lV y :: uV :: t) st M Q) : wp L d m pc (x0 :: x1 :: x2 :: x3 :: x4 :: x5 :: x6 :: x7 :: x8 :: x9 :: x10 :: t) (lV y :: st) M Q := by
  refine wp_lstore hd ?_ rfl h
  simp [zFree, hf]
theorem wp_lst10 {x0 x1 x2 x3 x4 x5 x6 x7 x8 x9 x10 x11 : zV} {t : List zV} {y : Int64} (hd : decode m.2.2.1 pc = .ok (.lstore 10, 2)) (hf : (zCat x9 == 1) = true) (h : wp L d m (pc + 2) (x0 :: x1 :: x2 :: x3 :: x4 :: x5 :: x6 :: x7 :: x8 :: x9 :: lV y :: uV :: t) st M Q) : wp L d m pc (x0 :: x1 :: x2 :: x3 :: x4 :: x5 :: x6 :: x7 :: x8 :: x9 :: x10 :: x11 :: t) (lV y :: st) M Q := by
  refine wp_lstore hd ?_ rfl h
  simp [zFree, hf]
theorem wp_lst11 {x0 x1 x2 x3 x4 x5 x6 x7 x8 x9 x10 x11 x12 : zV} {t : List zV} {y : Int64} (hd : decode m.2.2.1 pc = .ok (.lstore 11, 2)) (hf : (zCat x10 == 1) = true) (h : wp L d m (pc + 2) (x0 :: x1 :: x2 :: x3 :: x4 :: x5 :: x6 :: x7 :: x8 :: x9 :: x10 :: lV y :: uV :: t) st M Q) : wp L d m pc (x0 :: x1 :: x2 :: x3 :: x4 :: x5 :: x6 :: x7 :: x8 :: x9 :: x10 :: x11 :: x12 :: t) (lV y :: st) M Q := by
  refine wp_lstore hd ?_ rfl h
  simp [zFree, hf]
variable {ls : List zV}
def Cf (L d : Nat) (m : zD) (as : List zV) (M : zM) (v : zV) (M1 : zM) : Prop := wpc L d m as M (fun r M' => r = some v ∧ M' = M1)
def Ci (L d : Nat) (m : zD) (as : List zV) (M : zM) (P : Int → zM → Prop) : Prop := wpc L d m as M (fun r M' => ∃ x, r = some (iV x) ∧ P x M')
def Cv (L d : Nat) (m : zD) (as : List zV) (M : zM) (P : zM → Prop) : Prop := wpc L d m as M (fun r M' => r = none ∧ P M')
theorem wp_callV0f {k a sz d' : Nat} {m' : zD} {rest : List zV} {v : zV} {M1 : zM} (hd : decode m.2.2.1 pc = .ok (.invokevirtual k, 3)) (hf : zCall m.1 k = some (0, 0, m')) (hcs : decide (zCs rest ≤ 8) = true) (hk : zkd L a = some (m'.1, sz)) (hsl : decide ((zSl [rV a]).length ≤ m'.2.2.2.1) = true) (hle : decide (d' + 1 ≤ d) = true) (hc : Cf L d' m' [rV a] M v M1) (h : wp L d m (pc + 3) ls (v :: rest) M1 Q) : wp L d m pc ls (rV a :: rest) M Q :=
  wp_callV (as := []) hd hf ⟨rfl, rfl⟩ hcs hk hsl hle hc (fun r M' hp => by obtain ⟨rfl, rfl⟩ := hp; exact h)
theorem wp_callV0i {k a sz d' : Nat} {m' : zD} {rest : List zV} {P : Int → zM → Prop} (hd : decode m.2.2.1 pc = .ok (.invokevirtual k, 3)) (hf : zCall m.1 k = some (0, 0, m')) (hcs : decide (zCs rest ≤ 8) = true) (hk : zkd L a = some (m'.1, sz)) (hsl : decide ((zSl [rV a]).length ≤ m'.2.2.2.1) = true) (hle : decide (d' + 1 ≤ d) = true) (hc : Ci L d' m' [rV a] M P) (h : ∀ x M', P x M' → wp L d m (pc + 3) ls (iV x :: rest) M' Q) : wp L d m pc ls (rV a :: rest) M Q :=
  wp_callV (as := []) hd hf ⟨rfl, rfl⟩ hcs hk hsl hle hc (fun r M' hp => by obtain ⟨x, rfl, hp⟩ := hp; exact h x M' hp)
theorem wp_callV0v {k a sz d' : Nat} {m' : zD} {rest : List zV} {P : zM → Prop} (hd : decode m.2.2.1 pc = .ok (.invokevirtual k, 3)) (hf : zCall m.1 k = some (0, 0, m')) (hcs : decide (zCs rest ≤ 8) = true) (hk : zkd L a = some (m'.1, sz)) (hsl : decide ((zSl [rV a]).length ≤ m'.2.2.2.1) = true) (hle : decide (d' + 1 ≤ d) = true) (hc : Cv L d' m' [rV a] M P) (h : ∀ M', P M' → wp L d m (pc + 3) ls rest M' Q) : wp L d m pc ls (rV a :: rest) M Q :=
  wp_callV (as := []) hd hf ⟨rfl, rfl⟩ hcs hk hsl hle hc (fun r M' hp => by obtain ⟨rfl, hp⟩ := hp; exact h M' hp)
theorem wp_callV1f {k a sz d' : Nat} {m' : zD} {rest : List zV} {y1 : zV} {v : zV} {M1 : zM} (hd : decode m.2.2.1 pc = .ok (.invokevirtual k, 3)) (hf : zCall m.1 k = some (0, 1, m')) (hcs : decide (zCs rest ≤ 8) = true) (hk : zkd L a = some (m'.1, sz)) (hsl : decide ((zSl [rV a, y1]).length ≤ m'.2.2.2.1) = true) (hle : decide (d' + 1 ≤ d) = true) (hc : Cf L d' m' [rV a, y1] M v M1) (h : wp L d m (pc + 3) ls (v :: rest) M1 Q) : wp L d m pc ls (y1 :: rV a :: rest) M Q :=
  wp_callV (as := [y1]) hd hf ⟨rfl, rfl⟩ hcs hk hsl hle hc (fun r M' hp => by obtain ⟨rfl, rfl⟩ := hp; exact h)
theorem wp_callV1i {k a sz d' : Nat} {m' : zD} {rest : List zV} {y1 : zV} {P : Int → zM → Prop} (hd : decode m.2.2.1 pc = .ok (.invokevirtual k, 3)) (hf : zCall m.1 k = some (0, 1, m')) (hcs : decide (zCs rest ≤ 8) = true) (hk : zkd L a = some (m'.1, sz)) (hsl : decide ((zSl [rV a, y1]).length ≤ m'.2.2.2.1) = true) (hle : decide (d' + 1 ≤ d) = true) (hc : Ci L d' m' [rV a, y1] M P) (h : ∀ x M', P x M' → wp L d m (pc + 3) ls (iV x :: rest) M' Q) : wp L d m pc ls (y1 :: rV a :: rest) M Q :=
  wp_callV (as := [y1]) hd hf ⟨rfl, rfl⟩ hcs hk hsl hle hc (fun r M' hp => by obtain ⟨x, rfl, hp⟩ := hp; exact h x M' hp)
theorem wp_callV1v {k a sz d' : Nat} {m' : zD} {rest : List zV} {y1 : zV} {P : zM → Prop} (hd : decode m.2.2.1 pc = .ok (.invokevirtual k, 3)) (hf : zCall m.1 k = some (0, 1, m')) (hcs : decide (zCs rest ≤ 8) = true) (hk : zkd L a = some (m'.1, sz)) (hsl : decide ((zSl [rV a, y1]).length ≤ m'.2.2.2.1) = true) (hle : decide (d' + 1 ≤ d) = true) (hc : Cv L d' m' [rV a, y1] M P) (h : ∀ M', P M' → wp L d m (pc + 3) ls rest M' Q) : wp L d m pc ls (y1 :: rV a :: rest) M Q :=
  wp_callV (as := [y1]) hd hf ⟨rfl, rfl⟩ hcs hk hsl hle hc (fun r M' hp => by obtain ⟨rfl, hp⟩ := hp; exact h M' hp)
theorem wp_callS1f {k d' : Nat} {m' : zD} {rest : List zV} {y1 : zV} {v : zV} {M1 : zM} (hd : decode m.2.2.1 pc = .ok (.invokestatic k, 3)) (hm : zMth m.1 k = none) (hf : zCall m.1 k = some (1, 1, m')) (hcs : decide (zCs rest ≤ 8) = true) (hsl : decide ((zSl [y1]).length ≤ m'.2.2.2.1) = true) (hle : decide (d' + 1 ≤ d) = true) (hc : Cf L d' m' [y1] M v M1) (h : wp L d m (pc + 3) ls (v :: rest) M1 Q) : wp L d m pc ls (y1 :: rest) M Q :=
  wp_callS (as := [y1]) (rest := rest) hd hm hf ⟨rfl, rfl, decide_eq_true (by simp)⟩ hcs hsl hle hc (fun r M' hp => by obtain ⟨rfl, rfl⟩ := hp; exact h)
theorem wp_callS1i {k d' : Nat} {m' : zD} {rest : List zV} {y1 : zV} {P : Int → zM → Prop} (hd : decode m.2.2.1 pc = .ok (.invokestatic k, 3)) (hm : zMth m.1 k = none) (hf : zCall m.1 k = some (1, 1, m')) (hcs : decide (zCs rest ≤ 8) = true) (hsl : decide ((zSl [y1]).length ≤ m'.2.2.2.1) = true) (hle : decide (d' + 1 ≤ d) = true) (hc : Ci L d' m' [y1] M P) (h : ∀ x M', P x M' → wp L d m (pc + 3) ls (iV x :: rest) M' Q) : wp L d m pc ls (y1 :: rest) M Q :=
  wp_callS (as := [y1]) (rest := rest) hd hm hf ⟨rfl, rfl, decide_eq_true (by simp)⟩ hcs hsl hle hc (fun r M' hp => by obtain ⟨x, rfl, hp⟩ := hp; exact h x M' hp)
theorem wp_callS1v {k d' : Nat} {m' : zD} {rest : List zV} {y1 : zV} {P : zM → Prop} (hd : decode m.2.2.1 pc = .ok (.invokestatic k, 3)) (hm : zMth m.1 k = none) (hf : zCall m.1 k = some (1, 1, m')) (hcs : decide (zCs rest ≤ 8) = true) (hsl : decide ((zSl [y1]).length ≤ m'.2.2.2.1) = true) (hle : decide (d' + 1 ≤ d) = true) (hc : Cv L d' m' [y1] M P) (h : ∀ M', P M' → wp L d m (pc + 3) ls rest M' Q) : wp L d m pc ls (y1 :: rest) M Q :=
  wp_callS (as := [y1]) (rest := rest) hd hm hf ⟨rfl, rfl, decide_eq_true (by simp)⟩ hcs hsl hle hc (fun r M' hp => by obtain ⟨rfl, hp⟩ := hp; exact h M' hp)
theorem wp_callV2f {k a sz d' : Nat} {m' : zD} {rest : List zV} {y1 y2 : zV} {v : zV} {M1 : zM} (hd : decode m.2.2.1 pc = .ok (.invokevirtual k, 3)) (hf : zCall m.1 k = some (0, 2, m')) (hcs : decide (zCs rest ≤ 8) = true) (hk : zkd L a = some (m'.1, sz)) (hsl : decide ((zSl [rV a, y1, y2]).length ≤ m'.2.2.2.1) = true) (hle : decide (d' + 1 ≤ d) = true) (hc : Cf L d' m' [rV a, y1, y2] M v M1) (h : wp L d m (pc + 3) ls (v :: rest) M1 Q) : wp L d m pc ls (y2 :: y1 :: rV a :: rest) M Q :=
  wp_callV (as := [y2, y1]) hd hf ⟨rfl, rfl⟩ hcs hk hsl hle hc (fun r M' hp => by obtain ⟨rfl, rfl⟩ := hp; exact h)
theorem wp_callV2i {k a sz d' : Nat} {m' : zD} {rest : List zV} {y1 y2 : zV} {P : Int → zM → Prop} (hd : decode m.2.2.1 pc = .ok (.invokevirtual k, 3)) (hf : zCall m.1 k = some (0, 2, m')) (hcs : decide (zCs rest ≤ 8) = true) (hk : zkd L a = some (m'.1, sz)) (hsl : decide ((zSl [rV a, y1, y2]).length ≤ m'.2.2.2.1) = true) (hle : decide (d' + 1 ≤ d) = true) (hc : Ci L d' m' [rV a, y1, y2] M P) (h : ∀ x M', P x M' → wp L d m (pc + 3) ls (iV x :: rest) M' Q) : wp L d m pc ls (y2 :: y1 :: rV a :: rest) M Q :=
  wp_callV (as := [y2, y1]) hd hf ⟨rfl, rfl⟩ hcs hk hsl hle hc (fun r M' hp => by obtain ⟨x, rfl, hp⟩ := hp; exact h x M' hp)
theorem wp_callV2v {k a sz d' : Nat} {m' : zD} {rest : List zV} {y1 y2 : zV} {P : zM → Prop} (hd : decode m.2.2.1 pc = .ok (.invokevirtual k, 3)) (hf : zCall m.1 k = some (0, 2, m')) (hcs : decide (zCs rest ≤ 8) = true) (hk : zkd L a = some (m'.1, sz)) (hsl : decide ((zSl [rV a, y1, y2]).length ≤ m'.2.2.2.1) = true) (hle : decide (d' + 1 ≤ d) = true) (hc : Cv L d' m' [rV a, y1, y2] M P) (h : ∀ M', P M' → wp L d m (pc + 3) ls rest M' Q) : wp L d m pc ls (y2 :: y1 :: rV a :: rest) M Q :=
  wp_callV (as := [y2, y1]) hd hf ⟨rfl, rfl⟩ hcs hk hsl hle hc (fun r M' hp => by obtain ⟨rfl, hp⟩ := hp; exact h M' hp)
theorem wp_callS2f {k d' : Nat} {m' : zD} {rest : List zV} {y1 y2 : zV} {v : zV} {M1 : zM} (hd : decode m.2.2.1 pc = .ok (.invokestatic k, 3)) (hm : zMth m.1 k = none) (hf : zCall m.1 k = some (1, 2, m')) (hcs : decide (zCs rest ≤ 8) = true) (hsl : decide ((zSl [y1, y2]).length ≤ m'.2.2.2.1) = true) (hle : decide (d' + 1 ≤ d) = true) (hc : Cf L d' m' [y1, y2] M v M1) (h : wp L d m (pc + 3) ls (v :: rest) M1 Q) : wp L d m pc ls (y2 :: y1 :: rest) M Q :=
  wp_callS (as := [y2, y1]) (rest := rest) hd hm hf ⟨rfl, rfl, decide_eq_true (by simp)⟩ hcs hsl hle hc (fun r M' hp => by obtain ⟨rfl, rfl⟩ := hp; exact h)
theorem wp_callS2i {k d' : Nat} {m' : zD} {rest : List zV} {y1 y2 : zV} {P : Int → zM → Prop} (hd : decode m.2.2.1 pc = .ok (.invokestatic k, 3)) (hm : zMth m.1 k = none) (hf : zCall m.1 k = some (1, 2, m')) (hcs : decide (zCs rest ≤ 8) = true) (hsl : decide ((zSl [y1, y2]).length ≤ m'.2.2.2.1) = true) (hle : decide (d' + 1 ≤ d) = true) (hc : Ci L d' m' [y1, y2] M P) (h : ∀ x M', P x M' → wp L d m (pc + 3) ls (iV x :: rest) M' Q) : wp L d m pc ls (y2 :: y1 :: rest) M Q :=
  wp_callS (as := [y2, y1]) (rest := rest) hd hm hf ⟨rfl, rfl, decide_eq_true (by simp)⟩ hcs hsl hle hc (fun r M' hp => by obtain ⟨x, rfl, hp⟩ := hp; exact h x M' hp)
theorem wp_callS2v {k d' : Nat} {m' : zD} {rest : List zV} {y1 y2 : zV} {P : zM → Prop} (hd : decode m.2.2.1 pc = .ok (.invokestatic k, 3)) (hm : zMth m.1 k = none) (hf : zCall m.1 k = some (1, 2, m')) (hcs : decide (zCs rest ≤ 8) = true) (hsl : decide ((zSl [y1, y2]).length ≤ m'.2.2.2.1) = true) (hle : decide (d' + 1 ≤ d) = true) (hc : Cv L d' m' [y1, y2] M P) (h : ∀ M', P M' → wp L d m (pc + 3) ls rest M' Q) : wp L d m pc ls (y2 :: y1 :: rest) M Q :=
  wp_callS (as := [y2, y1]) (rest := rest) hd hm hf ⟨rfl, rfl, decide_eq_true (by simp)⟩ hcs hsl hle hc (fun r M' hp => by obtain ⟨rfl, hp⟩ := hp; exact h M' hp)
theorem wp_callV3f {k a sz d' : Nat} {m' : zD} {rest : List zV} {y1 y2 y3 : zV} {v : zV} {M1 : zM} (hd : decode m.2.2.1 pc = .ok (.invokevirtual k, 3)) (hf : zCall m.1 k = some (0, 3, m')) (hcs : decide (zCs rest ≤ 8) = true) (hk : zkd L a = some (m'.1, sz)) (hsl : decide ((zSl [rV a, y1, y2, y3]).length ≤ m'.2.2.2.1) = true) (hle : decide (d' + 1 ≤ d) = true) (hc : Cf L d' m' [rV a, y1, y2, y3] M v M1) (h : wp L d m (pc + 3) ls (v :: rest) M1 Q) : wp L d m pc ls (y3 :: y2 :: y1 :: rV a :: rest) M Q :=
  wp_callV (as := [y3, y2, y1]) hd hf ⟨rfl, rfl⟩ hcs hk hsl hle hc (fun r M' hp => by obtain ⟨rfl, rfl⟩ := hp; exact h)
theorem wp_callV3i {k a sz d' : Nat} {m' : zD} {rest : List zV} {y1 y2 y3 : zV} {P : Int → zM → Prop} (hd : decode m.2.2.1 pc = .ok (.invokevirtual k, 3)) (hf : zCall m.1 k = some (0, 3, m')) (hcs : decide (zCs rest ≤ 8) = true) (hk : zkd L a = some (m'.1, sz)) (hsl : decide ((zSl [rV a, y1, y2, y3]).length ≤ m'.2.2.2.1) = true) (hle : decide (d' + 1 ≤ d) = true) (hc : Ci L d' m' [rV a, y1, y2, y3] M P) (h : ∀ x M', P x M' → wp L d m (pc + 3) ls (iV x :: rest) M' Q) : wp L d m pc ls (y3 :: y2 :: y1 :: rV a :: rest) M Q :=
  wp_callV (as := [y3, y2, y1]) hd hf ⟨rfl, rfl⟩ hcs hk hsl hle hc (fun r M' hp => by obtain ⟨x, rfl, hp⟩ := hp; exact h x M' hp)
theorem wp_callV3v {k a sz d' : Nat} {m' : zD} {rest : List zV} {y1 y2 y3 : zV} {P : zM → Prop} (hd : decode m.2.2.1 pc = .ok (.invokevirtual k, 3)) (hf : zCall m.1 k = some (0, 3, m')) (hcs : decide (zCs rest ≤ 8) = true) (hk : zkd L a = some (m'.1, sz)) (hsl : decide ((zSl [rV a, y1, y2, y3]).length ≤ m'.2.2.2.1) = true) (hle : decide (d' + 1 ≤ d) = true) (hc : Cv L d' m' [rV a, y1, y2, y3] M P) (h : ∀ M', P M' → wp L d m (pc + 3) ls rest M' Q) : wp L d m pc ls (y3 :: y2 :: y1 :: rV a :: rest) M Q :=
  wp_callV (as := [y3, y2, y1]) hd hf ⟨rfl, rfl⟩ hcs hk hsl hle hc (fun r M' hp => by obtain ⟨rfl, hp⟩ := hp; exact h M' hp)
theorem wp_callS3f {k d' : Nat} {m' : zD} {rest : List zV} {y1 y2 y3 : zV} {v : zV} {M1 : zM} (hd : decode m.2.2.1 pc = .ok (.invokestatic k, 3)) (hm : zMth m.1 k = none) (hf : zCall m.1 k = some (1, 3, m')) (hcs : decide (zCs rest ≤ 8) = true) (hsl : decide ((zSl [y1, y2, y3]).length ≤ m'.2.2.2.1) = true) (hle : decide (d' + 1 ≤ d) = true) (hc : Cf L d' m' [y1, y2, y3] M v M1) (h : wp L d m (pc + 3) ls (v :: rest) M1 Q) : wp L d m pc ls (y3 :: y2 :: y1 :: rest) M Q :=
  wp_callS (as := [y3, y2, y1]) (rest := rest) hd hm hf ⟨rfl, rfl, decide_eq_true (by simp)⟩ hcs hsl hle hc (fun r M' hp => by obtain ⟨rfl, rfl⟩ := hp; exact h)
theorem wp_callS3i {k d' : Nat} {m' : zD} {rest : List zV} {y1 y2 y3 : zV} {P : Int → zM → Prop} (hd : decode m.2.2.1 pc = .ok (.invokestatic k, 3)) (hm : zMth m.1 k = none) (hf : zCall m.1 k = some (1, 3, m')) (hcs : decide (zCs rest ≤ 8) = true) (hsl : decide ((zSl [y1, y2, y3]).length ≤ m'.2.2.2.1) = true) (hle : decide (d' + 1 ≤ d) = true) (hc : Ci L d' m' [y1, y2, y3] M P) (h : ∀ x M', P x M' → wp L d m (pc + 3) ls (iV x :: rest) M' Q) : wp L d m pc ls (y3 :: y2 :: y1 :: rest) M Q :=
  wp_callS (as := [y3, y2, y1]) (rest := rest) hd hm hf ⟨rfl, rfl, decide_eq_true (by simp)⟩ hcs hsl hle hc (fun r M' hp => by obtain ⟨x, rfl, hp⟩ := hp; exact h x M' hp)
theorem wp_callS3v {k d' : Nat} {m' : zD} {rest : List zV} {y1 y2 y3 : zV} {P : zM → Prop} (hd : decode m.2.2.1 pc = .ok (.invokestatic k, 3)) (hm : zMth m.1 k = none) (hf : zCall m.1 k = some (1, 3, m')) (hcs : decide (zCs rest ≤ 8) = true) (hsl : decide ((zSl [y1, y2, y3]).length ≤ m'.2.2.2.1) = true) (hle : decide (d' + 1 ≤ d) = true) (hc : Cv L d' m' [y1, y2, y3] M P) (h : ∀ M', P M' → wp L d m (pc + 3) ls rest M' Q) : wp L d m pc ls (y3 :: y2 :: y1 :: rest) M Q :=
  wp_callS (as := [y3, y2, y1]) (rest := rest) hd hm hf ⟨rfl, rfl, decide_eq_true (by simp)⟩ hcs hsl hle hc (fun r M' hp => by obtain ⟨rfl, hp⟩ := hp; exact h M' hp)
theorem wp_callV4f {k a sz d' : Nat} {m' : zD} {rest : List zV} {y1 y2 y3 y4 : zV} {v : zV} {M1 : zM} (hd : decode m.2.2.1 pc = .ok (.invokevirtual k, 3)) (hf : zCall m.1 k = some (0, 4, m')) (hcs : decide (zCs rest ≤ 8) = true) (hk : zkd L a = some (m'.1, sz)) (hsl : decide ((zSl [rV a, y1, y2, y3, y4]).length ≤ m'.2.2.2.1) = true) (hle : decide (d' + 1 ≤ d) = true) (hc : Cf L d' m' [rV a, y1, y2, y3, y4] M v M1) (h : wp L d m (pc + 3) ls (v :: rest) M1 Q) : wp L d m pc ls (y4 :: y3 :: y2 :: y1 :: rV a :: rest) M Q :=
  wp_callV (as := [y4, y3, y2, y1]) hd hf ⟨rfl, rfl⟩ hcs hk hsl hle hc (fun r M' hp => by obtain ⟨rfl, rfl⟩ := hp; exact h)
theorem wp_callV4i {k a sz d' : Nat} {m' : zD} {rest : List zV} {y1 y2 y3 y4 : zV} {P : Int → zM → Prop} (hd : decode m.2.2.1 pc = .ok (.invokevirtual k, 3)) (hf : zCall m.1 k = some (0, 4, m')) (hcs : decide (zCs rest ≤ 8) = true) (hk : zkd L a = some (m'.1, sz)) (hsl : decide ((zSl [rV a, y1, y2, y3, y4]).length ≤ m'.2.2.2.1) = true) (hle : decide (d' + 1 ≤ d) = true) (hc : Ci L d' m' [rV a, y1, y2, y3, y4] M P) (h : ∀ x M', P x M' → wp L d m (pc + 3) ls (iV x :: rest) M' Q) : wp L d m pc ls (y4 :: y3 :: y2 :: y1 :: rV a :: rest) M Q :=
  wp_callV (as := [y4, y3, y2, y1]) hd hf ⟨rfl, rfl⟩ hcs hk hsl hle hc (fun r M' hp => by obtain ⟨x, rfl, hp⟩ := hp; exact h x M' hp)
theorem wp_callV4v {k a sz d' : Nat} {m' : zD} {rest : List zV} {y1 y2 y3 y4 : zV} {P : zM → Prop} (hd : decode m.2.2.1 pc = .ok (.invokevirtual k, 3)) (hf : zCall m.1 k = some (0, 4, m')) (hcs : decide (zCs rest ≤ 8) = true) (hk : zkd L a = some (m'.1, sz)) (hsl : decide ((zSl [rV a, y1, y2, y3, y4]).length ≤ m'.2.2.2.1) = true) (hle : decide (d' + 1 ≤ d) = true) (hc : Cv L d' m' [rV a, y1, y2, y3, y4] M P) (h : ∀ M', P M' → wp L d m (pc + 3) ls rest M' Q) : wp L d m pc ls (y4 :: y3 :: y2 :: y1 :: rV a :: rest) M Q :=
  wp_callV (as := [y4, y3, y2, y1]) hd hf ⟨rfl, rfl⟩ hcs hk hsl hle hc (fun r M' hp => by obtain ⟨rfl, hp⟩ := hp; exact h M' hp)
theorem wp_callS4f {k d' : Nat} {m' : zD} {rest : List zV} {y1 y2 y3 y4 : zV} {v : zV} {M1 : zM} (hd : decode m.2.2.1 pc = .ok (.invokestatic k, 3)) (hm : zMth m.1 k = none) (hf : zCall m.1 k = some (1, 4, m')) (hcs : decide (zCs rest ≤ 8) = true) (hsl : decide ((zSl [y1, y2, y3, y4]).length ≤ m'.2.2.2.1) = true) (hle : decide (d' + 1 ≤ d) = true) (hc : Cf L d' m' [y1, y2, y3, y4] M v M1) (h : wp L d m (pc + 3) ls (v :: rest) M1 Q) : wp L d m pc ls (y4 :: y3 :: y2 :: y1 :: rest) M Q :=
  wp_callS (as := [y4, y3, y2, y1]) (rest := rest) hd hm hf ⟨rfl, rfl, decide_eq_true (by simp)⟩ hcs hsl hle hc (fun r M' hp => by obtain ⟨rfl, rfl⟩ := hp; exact h)
theorem wp_callS4i {k d' : Nat} {m' : zD} {rest : List zV} {y1 y2 y3 y4 : zV} {P : Int → zM → Prop} (hd : decode m.2.2.1 pc = .ok (.invokestatic k, 3)) (hm : zMth m.1 k = none) (hf : zCall m.1 k = some (1, 4, m')) (hcs : decide (zCs rest ≤ 8) = true) (hsl : decide ((zSl [y1, y2, y3, y4]).length ≤ m'.2.2.2.1) = true) (hle : decide (d' + 1 ≤ d) = true) (hc : Ci L d' m' [y1, y2, y3, y4] M P) (h : ∀ x M', P x M' → wp L d m (pc + 3) ls (iV x :: rest) M' Q) : wp L d m pc ls (y4 :: y3 :: y2 :: y1 :: rest) M Q :=
  wp_callS (as := [y4, y3, y2, y1]) (rest := rest) hd hm hf ⟨rfl, rfl, decide_eq_true (by simp)⟩ hcs hsl hle hc (fun r M' hp => by obtain ⟨x, rfl, hp⟩ := hp; exact h x M' hp)
theorem wp_callS4v {k d' : Nat} {m' : zD} {rest : List zV} {y1 y2 y3 y4 : zV} {P : zM → Prop} (hd : decode m.2.2.1 pc = .ok (.invokestatic k, 3)) (hm : zMth m.1 k = none) (hf : zCall m.1 k = some (1, 4, m')) (hcs : decide (zCs rest ≤ 8) = true) (hsl : decide ((zSl [y1, y2, y3, y4]).length ≤ m'.2.2.2.1) = true) (hle : decide (d' + 1 ≤ d) = true) (hc : Cv L d' m' [y1, y2, y3, y4] M P) (h : ∀ M', P M' → wp L d m (pc + 3) ls rest M' Q) : wp L d m pc ls (y4 :: y3 :: y2 :: y1 :: rest) M Q :=
  wp_callS (as := [y4, y3, y2, y1]) (rest := rest) hd hm hf ⟨rfl, rfl, decide_eq_true (by simp)⟩ hcs hsl hle hc (fun r M' hp => by obtain ⟨rfl, hp⟩ := hp; exact h M' hp)
end ZWR
theorem zk_0 (L : Nat) : zkd L 0 = some (20, 26) := rfl
theorem zk_1 (L : Nat) : zkd L 1 = some (20, 7) := rfl
theorem zk_2 (L : Nat) : zkd L 2 = some (20, 7) := rfl
theorem zk_4 (L : Nat) : zkd L 4 = some (9, 9) := rfl
theorem zk_5 (L : Nat) : zkd L 5 = some (8, 2) := rfl
theorem zk_6 (L : Nat) : zkd L 6 = some (20, 24) := rfl
theorem zk_7 (L : Nat) : zkd L 7 = some (3, 6) := rfl
theorem zk_8 (L : Nat) : zkd L 8 = some (22, 6) := rfl
theorem zk_9 (L : Nat) : zkd L 9 = some (23, 36) := rfl
theorem zk_10 (L : Nat) : zkd L 10 = some (0, 1) := rfl
theorem zk_11 (L : Nat) : zkd L 11 = some (20, 676) := rfl
theorem zk_12 (L : Nat) : zkd L 12 = some (8, 2) := rfl
theorem zk_13 (L : Nat) : zkd L 13 = some (20, 24) := rfl
theorem zk_14 (L : Nat) : zkd L 14 = some (8, 2) := rfl
theorem zk_15 (L : Nat) : zkd L 15 = some (20, 24) := rfl
theorem zk_16 (L : Nat) : zkd L 16 = some (8, 2) := rfl
theorem zk_17 (L : Nat) : zkd L 17 = some (20, 24) := rfl
theorem zk_18 (L : Nat) : zkd L 18 = some (8, 2) := rfl
theorem zk_19 (L : Nat) : zkd L 19 = some (20, 24) := rfl
theorem zk_20 (L : Nat) : zkd L 20 = some (8, 2) := rfl
theorem zk_21 (L : Nat) : zkd L 21 = some (20, 24) := rfl
theorem zk_22 (L : Nat) : zkd L 22 = some (8, 2) := rfl
theorem zk_23 (L : Nat) : zkd L 23 = some (20, 24) := rfl
theorem zk_24 (L : Nat) : zkd L 24 = some (1, 4) := rfl
theorem zk_25 (L : Nat) : zkd L 25 = some (20, 48) := rfl
theorem zk_26 (L : Nat) : zkd L 26 = some (20, 7) := rfl
theorem zk_27 (L : Nat) : zkd L 27 = some (1, 4) := rfl
theorem zk_28 (L : Nat) : zkd L 28 = some (20, 48) := rfl
theorem zk_29 (L : Nat) : zkd L 29 = some (20, 7) := rfl
theorem zk_30 (L : Nat) : zkd L 30 = some (1, 4) := rfl
theorem zk_31 (L : Nat) : zkd L 31 = some (20, 48) := rfl
theorem zk_32 (L : Nat) : zkd L 32 = some (20, 7) := rfl
theorem zk_33 (L : Nat) : zkd L 33 = some (1, 4) := rfl
theorem zk_34 (L : Nat) : zkd L 34 = some (20, 48) := rfl
theorem zk_35 (L : Nat) : zkd L 35 = some (20, 7) := rfl
theorem zk_36 (L : Nat) : zkd L 36 = some (1, 4) := rfl
theorem zk_37 (L : Nat) : zkd L 37 = some (20, 48) := rfl
theorem zk_38 (L : Nat) : zkd L 38 = some (20, 7) := rfl
theorem zk_39 (L : Nat) : zkd L 39 = some (1, 4) := rfl
theorem zk_40 (L : Nat) : zkd L 40 = some (20, 48) := rfl
theorem zk_41 (L : Nat) : zkd L 41 = some (20, 7) := rfl
theorem zk_42 (L : Nat) : zkd L 42 = some (1, 4) := rfl
theorem zk_43 (L : Nat) : zkd L 43 = some (20, 48) := rfl
theorem zk_44 (L : Nat) : zkd L 44 = some (20, 7) := rfl
theorem zk_45 (L : Nat) : zkd L 45 = some (1, 4) := rfl
theorem zk_46 (L : Nat) : zkd L 46 = some (20, 48) := rfl
theorem zk_47 (L : Nat) : zkd L 47 = some (20, 7) := rfl
theorem zk_48 (L : Nat) : zkd L 48 = some (1, 4) := rfl
theorem zk_49 (L : Nat) : zkd L 49 = some (20, 48) := rfl
theorem zk_50 (L : Nat) : zkd L 50 = some (20, 7) := rfl
theorem zk_51 (L : Nat) : zkd L 51 = some (1, 4) := rfl
theorem zk_52 (L : Nat) : zkd L 52 = some (20, 48) := rfl
theorem zk_53 (L : Nat) : zkd L 53 = some (20, 7) := rfl
theorem zk_54 (L : Nat) : zkd L 54 = some (1, 4) := rfl
theorem zk_55 (L : Nat) : zkd L 55 = some (20, 48) := rfl
theorem zk_56 (L : Nat) : zkd L 56 = some (20, 7) := rfl
theorem zk_57 (L : Nat) : zkd L 57 = some (1, 4) := rfl
theorem zk_58 (L : Nat) : zkd L 58 = some (20, 48) := rfl
theorem zk_59 (L : Nat) : zkd L 59 = some (20, 7) := rfl
theorem zk_60 (L : Nat) : zkd L 60 = some (1, 4) := rfl
theorem zk_61 (L : Nat) : zkd L 61 = some (20, 48) := rfl
theorem zk_62 (L : Nat) : zkd L 62 = some (20, 7) := rfl
theorem zk_63 (L : Nat) : zkd L 63 = some (1, 4) := rfl
theorem zk_64 (L : Nat) : zkd L 64 = some (20, 48) := rfl
theorem zk_65 (L : Nat) : zkd L 65 = some (20, 7) := rfl
theorem zk_66 (L : Nat) : zkd L 66 = some (1, 4) := rfl
theorem zk_67 (L : Nat) : zkd L 67 = some (20, 48) := rfl
theorem zk_68 (L : Nat) : zkd L 68 = some (20, 7) := rfl
theorem zk_69 (L : Nat) : zkd L 69 = some (1, 4) := rfl
theorem zk_70 (L : Nat) : zkd L 70 = some (20, 48) := rfl
theorem zk_71 (L : Nat) : zkd L 71 = some (20, 7) := rfl
theorem zk_72 (L : Nat) : zkd L 72 = some (1, 4) := rfl
theorem zk_73 (L : Nat) : zkd L 73 = some (20, 48) := rfl
theorem zk_74 (L : Nat) : zkd L 74 = some (20, 7) := rfl
theorem zk_75 (L : Nat) : zkd L 75 = some (1, 4) := rfl
theorem zk_76 (L : Nat) : zkd L 76 = some (20, 48) := rfl
theorem zk_77 (L : Nat) : zkd L 77 = some (20, 7) := rfl
theorem zk_78 (L : Nat) : zkd L 78 = some (1, 4) := rfl
theorem zk_79 (L : Nat) : zkd L 79 = some (20, 48) := rfl
theorem zk_80 (L : Nat) : zkd L 80 = some (20, 7) := rfl
theorem zk_81 (L : Nat) : zkd L 81 = some (1, 4) := rfl
theorem zk_82 (L : Nat) : zkd L 82 = some (20, 48) := rfl
theorem zk_83 (L : Nat) : zkd L 83 = some (20, 7) := rfl
theorem zk_84 (L : Nat) : zkd L 84 = some (1, 4) := rfl
theorem zk_85 (L : Nat) : zkd L 85 = some (20, 48) := rfl
theorem zk_86 (L : Nat) : zkd L 86 = some (20, 7) := rfl
theorem zk_87 (L : Nat) : zkd L 87 = some (1, 4) := rfl
theorem zk_88 (L : Nat) : zkd L 88 = some (20, 48) := rfl
theorem zk_89 (L : Nat) : zkd L 89 = some (20, 7) := rfl
theorem zk_90 (L : Nat) : zkd L 90 = some (1, 4) := rfl
theorem zk_91 (L : Nat) : zkd L 91 = some (20, 48) := rfl
theorem zk_92 (L : Nat) : zkd L 92 = some (20, 7) := rfl
theorem zk_93 (L : Nat) : zkd L 93 = some (1, 4) := rfl
theorem zk_94 (L : Nat) : zkd L 94 = some (20, 48) := rfl
theorem zk_95 (L : Nat) : zkd L 95 = some (20, 7) := rfl
theorem zk_96 (L : Nat) : zkd L 96 = some (1, 4) := rfl
theorem zk_97 (L : Nat) : zkd L 97 = some (20, 48) := rfl
theorem zk_98 (L : Nat) : zkd L 98 = some (20, 7) := rfl
theorem zk_99 (L : Nat) : zkd L 99 = some (1, 4) := rfl
theorem zk_100 (L : Nat) : zkd L 100 = some (20, 48) := rfl
theorem zk_101 (L : Nat) : zkd L 101 = some (20, 7) := rfl
theorem zk_102 (L : Nat) : zkd L 102 = some (1, 4) := rfl
theorem zk_103 (L : Nat) : zkd L 103 = some (20, 48) := rfl
theorem zk_104 (L : Nat) : zkd L 104 = some (20, 7) := rfl
theorem zk_105 (L : Nat) : zkd L 105 = some (1, 4) := rfl
theorem zk_106 (L : Nat) : zkd L 106 = some (20, 48) := rfl
theorem zk_107 (L : Nat) : zkd L 107 = some (20, 7) := rfl
theorem zk_108 (L : Nat) : zkd L 108 = some (1, 4) := rfl
theorem zk_109 (L : Nat) : zkd L 109 = some (20, 48) := rfl
theorem zk_110 (L : Nat) : zkd L 110 = some (20, 7) := rfl
theorem zk_111 (L : Nat) : zkd L 111 = some (1, 4) := rfl
theorem zk_112 (L : Nat) : zkd L 112 = some (20, 48) := rfl
theorem zk_113 (L : Nat) : zkd L 113 = some (20, 7) := rfl
theorem zk_114 (L : Nat) : zkd L 114 = some (1, 4) := rfl
theorem zk_115 (L : Nat) : zkd L 115 = some (20, 48) := rfl
theorem zk_116 (L : Nat) : zkd L 116 = some (20, 7) := rfl
theorem zk_117 (L : Nat) : zkd L 117 = some (1, 4) := rfl
theorem zk_118 (L : Nat) : zkd L 118 = some (20, 48) := rfl
theorem zk_119 (L : Nat) : zkd L 119 = some (20, 7) := rfl
theorem zk_120 (L : Nat) : zkd L 120 = some (1, 4) := rfl
theorem zk_121 (L : Nat) : zkd L 121 = some (20, 48) := rfl
theorem zk_122 (L : Nat) : zkd L 122 = some (20, 7) := rfl
theorem zk_123 (L : Nat) : zkd L 123 = some (1, 4) := rfl
theorem zk_124 (L : Nat) : zkd L 124 = some (20, 48) := rfl
theorem zk_125 (L : Nat) : zkd L 125 = some (20, 7) := rfl
theorem zk_126 (L : Nat) : zkd L 126 = some (1, 4) := rfl
theorem zk_127 (L : Nat) : zkd L 127 = some (20, 48) := rfl
theorem zk_128 (L : Nat) : zkd L 128 = some (20, 7) := rfl
theorem zk_129 (L : Nat) : zkd L 129 = some (1, 4) := rfl
theorem zk_130 (L : Nat) : zkd L 130 = some (20, 48) := rfl
theorem zk_131 (L : Nat) : zkd L 131 = some (20, 7) := rfl
theorem zk_132 (L : Nat) : zkd L 132 = some (7, 12) := rfl
theorem zk_133 (L : Nat) : zkd L 133 = some (24, 6) := rfl
theorem zk_134 (L : Nat) : zkd L 134 = some (20, 24) := rfl
theorem zk_135 (L : Nat) : zkd L 135 = some (20, 24) := rfl
theorem zk_136 (L : Nat) : zkd L 136 = some (20, 24) := rfl
theorem zk_137 (L : Nat) : zkd L 137 = some (20, 24) := rfl
theorem zk_138 (L : Nat) : zkd L 138 = some (20, 24) := rfl
theorem zk_139 (L : Nat) : zkd L 139 = some (20, 24) := rfl
theorem zk_140 (L : Nat) : zkd L 140 = some (20, 6) := rfl
theorem zk_141 (L : Nat) : zkd L 141 = some (20, 6) := rfl
theorem zk_142 (L : Nat) : zkd L 142 = some (20, 6) := rfl
theorem zk_143 (L : Nat) : zkd L 143 = some (20, 6) := rfl
theorem zk_144 (L : Nat) : zkd L 144 = some (20, 6) := rfl
theorem zk_145 (L : Nat) : zkd L 145 = some (20, 6) := rfl
theorem zk_146 (L : Nat) : zkd L 146 = some (20, 6) := rfl
theorem zk_147 (L : Nat) : zkd L 147 = some (6, 3) := rfl
theorem zk_148 (L : Nat) : zkd L 148 = some (24, 12) := rfl
theorem zk_149 (L : Nat) : zkd L 149 = some (20, 4) := rfl
theorem zk_150 (L : Nat) : zkd L 150 = some (20, 4) := rfl
theorem zk_151 (L : Nat) : zkd L 151 = some (20, 4) := rfl
theorem zk_152 (L : Nat) : zkd L 152 = some (20, 4) := rfl
theorem zk_153 (L : Nat) : zkd L 153 = some (20, 4) := rfl
theorem zk_154 (L : Nat) : zkd L 154 = some (20, 4) := rfl
theorem zk_155 (L : Nat) : zkd L 155 = some (20, 4) := rfl
theorem zk_156 (L : Nat) : zkd L 156 = some (20, 4) := rfl
theorem zk_157 (L : Nat) : zkd L 157 = some (20, 4) := rfl
theorem zk_158 (L : Nat) : zkd L 158 = some (20, 4) := rfl
theorem zk_159 (L : Nat) : zkd L 159 = some (20, 4) := rfl
theorem zk_160 (L : Nat) : zkd L 160 = some (20, 4) := rfl
theorem zk_161 (L : Nat) : zkd L 161 = some (2, 8) := rfl
theorem zk_162 (L : Nat) : zkd L 162 = some (20, 6) := rfl
theorem zk_163 (L : Nat) : zkd L 163 = some (20, 6) := rfl
theorem zk_164 (L : Nat) : zkd L 164 = some (20, 6) := rfl
theorem zk_165 (L : Nat) : zkd L 165 = some (20, 64) := rfl
theorem zk_166 (L : Nat) : zkd L 166 = some (20, 6) := rfl
theorem zk_167 (L : Nat) : zkd L 167 = some (4, 7) := rfl
theorem zk_168 (L : Nat) : zkd L 168 = some (20, 66) := rfl
theorem zk_169 (L : Nat) : zkd L 169 = some (20, 66) := rfl
theorem zk_170 (L : Nat) : zkd L 170 = some (20, 66) := rfl
theorem zk_171 (L : Nat) : zkd L 171 = some (20, 6) := rfl
theorem zk_172 (L : Nat) : zkd L 172 = some (5, 3) := rfl
theorem zk_173 (L : Nat) : zkd L 173 = some (20, 6) := rfl
theorem zk_174 (L : Nat) : zkd L 174 = some (10, 32) := rfl
theorem zk_175 (L : Nat) : zkd L 175 = some (20, 24) := rfl
theorem zk_176 (L : Nat) : zkd L 176 = some (20, 6) := rfl
theorem zk_177 (L : Nat) : zkd L 177 = some (20, 144) := rfl
theorem zk_178 (L : Nat) : zkd L 178 = some (20, 12) := rfl
theorem zk_179 (L : Nat) : zkd L 179 = some (20, 12) := rfl
theorem zk_180 (L : Nat) : zkd L 180 = some (20, 12) := rfl
theorem zk_181 (L : Nat) : zkd L 181 = some (20, 12) := rfl
theorem zk_182 (L : Nat) : zkd L 182 = some (20, 625) := rfl
theorem zk_183 (L : Nat) : zkd L 183 = some (20, 48) := rfl
theorem zk_184 (L : Nat) : zkd L 184 = some (20, 144) := rfl
theorem zk_185 (L : Nat) : zkd L 185 = some (21, 6) := rfl
theorem zk_186 (L : Nat) : zkd L 186 = some (20, 6) := rfl
theorem zk_187 (L : Nat) : zkd L 187 = some (20, 6) := rfl
theorem zk_188 (L : Nat) : zkd L 188 = some (20, 6) := rfl
theorem zk_189 (L : Nat) : zkd L 189 = some (20, 6) := rfl
theorem zk_190 (L : Nat) : zkd L 190 = some (20, 6) := rfl
theorem zk_191 (L : Nat) : zkd L 191 = some (20, 64) := rfl
theorem zk_192 (L : Nat) : zkd L 192 = some (20, 6) := rfl
theorem zk_193 (L : Nat) : zkd L 193 = some (20, 6) := rfl
theorem zx_4_0 : zK0 4 0 = ((5 : Nat) : Int) := rfl
theorem zx_4_1 : zK0 4 1 = ((7 : Nat) : Int) := rfl
theorem zx_4_2 : zK0 4 2 = ((132 : Nat) : Int) := rfl
theorem zx_4_3 : zK0 4 3 = ((147 : Nat) : Int) := rfl
theorem zx_4_4 : zK0 4 4 = ((161 : Nat) : Int) := rfl
theorem zx_4_5 : zK0 4 5 = ((167 : Nat) : Int) := rfl
theorem zx_4_6 : zK0 4 6 = ((172 : Nat) : Int) := rfl
theorem zx_5_0 : zK0 5 0 = ((6 : Nat) : Int) := rfl
theorem zx_7_0 : zK0 7 0 = ((8 : Nat) : Int) := rfl
theorem zx_7_1 : zK0 7 1 = ((9 : Nat) : Int) := rfl
theorem zx_7_2 : zK0 7 2 = ((10 : Nat) : Int) := rfl
theorem zx_8_0 : zK0 8 0 = ((12 : Nat) : Int) := rfl
theorem zx_8_1 : zK0 8 1 = ((14 : Nat) : Int) := rfl
theorem zx_8_2 : zK0 8 2 = ((16 : Nat) : Int) := rfl
theorem zx_8_3 : zK0 8 3 = ((18 : Nat) : Int) := rfl
theorem zx_8_4 : zK0 8 4 = ((20 : Nat) : Int) := rfl
theorem zx_8_5 : zK0 8 5 = ((22 : Nat) : Int) := rfl
theorem zx_9_0 : zK0 9 0 = ((24 : Nat) : Int) := rfl
theorem zx_9_1 : zK0 9 1 = ((27 : Nat) : Int) := rfl
theorem zx_9_2 : zK0 9 2 = ((30 : Nat) : Int) := rfl
theorem zx_9_3 : zK0 9 3 = ((33 : Nat) : Int) := rfl
theorem zx_9_4 : zK0 9 4 = ((36 : Nat) : Int) := rfl
theorem zx_9_5 : zK0 9 5 = ((39 : Nat) : Int) := rfl
theorem zx_9_6 : zK0 9 6 = ((42 : Nat) : Int) := rfl
theorem zx_9_7 : zK0 9 7 = ((45 : Nat) : Int) := rfl
theorem zx_9_8 : zK0 9 8 = ((48 : Nat) : Int) := rfl
theorem zx_9_9 : zK0 9 9 = ((51 : Nat) : Int) := rfl
theorem zx_9_10 : zK0 9 10 = ((54 : Nat) : Int) := rfl
theorem zx_9_11 : zK0 9 11 = ((57 : Nat) : Int) := rfl
theorem zx_9_12 : zK0 9 12 = ((60 : Nat) : Int) := rfl
theorem zx_9_13 : zK0 9 13 = ((63 : Nat) : Int) := rfl
theorem zx_9_14 : zK0 9 14 = ((66 : Nat) : Int) := rfl
theorem zx_9_15 : zK0 9 15 = ((69 : Nat) : Int) := rfl
theorem zx_9_16 : zK0 9 16 = ((72 : Nat) : Int) := rfl
theorem zx_9_17 : zK0 9 17 = ((75 : Nat) : Int) := rfl
theorem zx_9_18 : zK0 9 18 = ((78 : Nat) : Int) := rfl
theorem zx_9_19 : zK0 9 19 = ((81 : Nat) : Int) := rfl
theorem zx_9_20 : zK0 9 20 = ((84 : Nat) : Int) := rfl
theorem zx_9_21 : zK0 9 21 = ((87 : Nat) : Int) := rfl
theorem zx_9_22 : zK0 9 22 = ((90 : Nat) : Int) := rfl
theorem zx_9_23 : zK0 9 23 = ((93 : Nat) : Int) := rfl
theorem zx_9_24 : zK0 9 24 = ((96 : Nat) : Int) := rfl
theorem zx_9_25 : zK0 9 25 = ((99 : Nat) : Int) := rfl
theorem zx_9_26 : zK0 9 26 = ((102 : Nat) : Int) := rfl
theorem zx_9_27 : zK0 9 27 = ((105 : Nat) : Int) := rfl
theorem zx_9_28 : zK0 9 28 = ((108 : Nat) : Int) := rfl
theorem zx_9_29 : zK0 9 29 = ((111 : Nat) : Int) := rfl
theorem zx_9_30 : zK0 9 30 = ((114 : Nat) : Int) := rfl
theorem zx_9_31 : zK0 9 31 = ((117 : Nat) : Int) := rfl
theorem zx_9_32 : zK0 9 32 = ((120 : Nat) : Int) := rfl
theorem zx_9_33 : zK0 9 33 = ((123 : Nat) : Int) := rfl
theorem zx_9_34 : zK0 9 34 = ((126 : Nat) : Int) := rfl
theorem zx_9_35 : zK0 9 35 = ((129 : Nat) : Int) := rfl
theorem zx_10_0 : zK0 10 0 = ((11 : Nat) : Int) := rfl
theorem zx_12_0 : zK0 12 0 = ((13 : Nat) : Int) := rfl
theorem zx_14_0 : zK0 14 0 = ((15 : Nat) : Int) := rfl
theorem zx_16_0 : zK0 16 0 = ((17 : Nat) : Int) := rfl
theorem zx_18_0 : zK0 18 0 = ((19 : Nat) : Int) := rfl
theorem zx_20_0 : zK0 20 0 = ((21 : Nat) : Int) := rfl
theorem zx_22_0 : zK0 22 0 = ((23 : Nat) : Int) := rfl
theorem zx_24_0 : zK0 24 0 = ((25 : Nat) : Int) := rfl
theorem zx_24_1 : zK0 24 1 = ((26 : Nat) : Int) := rfl
theorem zx_27_0 : zK0 27 0 = ((28 : Nat) : Int) := rfl
theorem zx_27_1 : zK0 27 1 = ((29 : Nat) : Int) := rfl
theorem zx_30_0 : zK0 30 0 = ((31 : Nat) : Int) := rfl
theorem zx_30_1 : zK0 30 1 = ((32 : Nat) : Int) := rfl
theorem zx_33_0 : zK0 33 0 = ((34 : Nat) : Int) := rfl
theorem zx_33_1 : zK0 33 1 = ((35 : Nat) : Int) := rfl
theorem zx_36_0 : zK0 36 0 = ((37 : Nat) : Int) := rfl
theorem zx_36_1 : zK0 36 1 = ((38 : Nat) : Int) := rfl
theorem zx_39_0 : zK0 39 0 = ((40 : Nat) : Int) := rfl
theorem zx_39_1 : zK0 39 1 = ((41 : Nat) : Int) := rfl
theorem zx_42_0 : zK0 42 0 = ((43 : Nat) : Int) := rfl
theorem zx_42_1 : zK0 42 1 = ((44 : Nat) : Int) := rfl
theorem zx_45_0 : zK0 45 0 = ((46 : Nat) : Int) := rfl
theorem zx_45_1 : zK0 45 1 = ((47 : Nat) : Int) := rfl
theorem zx_48_0 : zK0 48 0 = ((49 : Nat) : Int) := rfl
theorem zx_48_1 : zK0 48 1 = ((50 : Nat) : Int) := rfl
theorem zx_51_0 : zK0 51 0 = ((52 : Nat) : Int) := rfl
theorem zx_51_1 : zK0 51 1 = ((53 : Nat) : Int) := rfl
theorem zx_54_0 : zK0 54 0 = ((55 : Nat) : Int) := rfl
theorem zx_54_1 : zK0 54 1 = ((56 : Nat) : Int) := rfl
theorem zx_57_0 : zK0 57 0 = ((58 : Nat) : Int) := rfl
theorem zx_57_1 : zK0 57 1 = ((59 : Nat) : Int) := rfl
theorem zx_60_0 : zK0 60 0 = ((61 : Nat) : Int) := rfl
theorem zx_60_1 : zK0 60 1 = ((62 : Nat) : Int) := rfl
theorem zx_63_0 : zK0 63 0 = ((64 : Nat) : Int) := rfl
theorem zx_63_1 : zK0 63 1 = ((65 : Nat) : Int) := rfl
theorem zx_66_0 : zK0 66 0 = ((67 : Nat) : Int) := rfl
theorem zx_66_1 : zK0 66 1 = ((68 : Nat) : Int) := rfl
theorem zx_69_0 : zK0 69 0 = ((70 : Nat) : Int) := rfl
theorem zx_69_1 : zK0 69 1 = ((71 : Nat) : Int) := rfl
theorem zx_72_0 : zK0 72 0 = ((73 : Nat) : Int) := rfl
theorem zx_72_1 : zK0 72 1 = ((74 : Nat) : Int) := rfl
theorem zx_75_0 : zK0 75 0 = ((76 : Nat) : Int) := rfl
theorem zx_75_1 : zK0 75 1 = ((77 : Nat) : Int) := rfl
theorem zx_78_0 : zK0 78 0 = ((79 : Nat) : Int) := rfl
theorem zx_78_1 : zK0 78 1 = ((80 : Nat) : Int) := rfl
theorem zx_81_0 : zK0 81 0 = ((82 : Nat) : Int) := rfl
theorem zx_81_1 : zK0 81 1 = ((83 : Nat) : Int) := rfl
theorem zx_84_0 : zK0 84 0 = ((85 : Nat) : Int) := rfl
theorem zx_84_1 : zK0 84 1 = ((86 : Nat) : Int) := rfl
theorem zx_87_0 : zK0 87 0 = ((88 : Nat) : Int) := rfl
theorem zx_87_1 : zK0 87 1 = ((89 : Nat) : Int) := rfl
theorem zx_90_0 : zK0 90 0 = ((91 : Nat) : Int) := rfl
theorem zx_90_1 : zK0 90 1 = ((92 : Nat) : Int) := rfl
theorem zx_93_0 : zK0 93 0 = ((94 : Nat) : Int) := rfl
theorem zx_93_1 : zK0 93 1 = ((95 : Nat) : Int) := rfl
theorem zx_96_0 : zK0 96 0 = ((97 : Nat) : Int) := rfl
theorem zx_96_1 : zK0 96 1 = ((98 : Nat) : Int) := rfl
theorem zx_99_0 : zK0 99 0 = ((100 : Nat) : Int) := rfl
theorem zx_99_1 : zK0 99 1 = ((101 : Nat) : Int) := rfl
theorem zx_102_0 : zK0 102 0 = ((103 : Nat) : Int) := rfl
theorem zx_102_1 : zK0 102 1 = ((104 : Nat) : Int) := rfl
theorem zx_105_0 : zK0 105 0 = ((106 : Nat) : Int) := rfl
theorem zx_105_1 : zK0 105 1 = ((107 : Nat) : Int) := rfl
theorem zx_108_0 : zK0 108 0 = ((109 : Nat) : Int) := rfl
theorem zx_108_1 : zK0 108 1 = ((110 : Nat) : Int) := rfl
theorem zx_111_0 : zK0 111 0 = ((112 : Nat) : Int) := rfl
theorem zx_111_1 : zK0 111 1 = ((113 : Nat) : Int) := rfl
theorem zx_114_0 : zK0 114 0 = ((115 : Nat) : Int) := rfl
theorem zx_114_1 : zK0 114 1 = ((116 : Nat) : Int) := rfl
theorem zx_117_0 : zK0 117 0 = ((118 : Nat) : Int) := rfl
theorem zx_117_1 : zK0 117 1 = ((119 : Nat) : Int) := rfl
theorem zx_120_0 : zK0 120 0 = ((121 : Nat) : Int) := rfl
theorem zx_120_1 : zK0 120 1 = ((122 : Nat) : Int) := rfl
theorem zx_123_0 : zK0 123 0 = ((124 : Nat) : Int) := rfl
theorem zx_123_1 : zK0 123 1 = ((125 : Nat) : Int) := rfl
theorem zx_126_0 : zK0 126 0 = ((127 : Nat) : Int) := rfl
theorem zx_126_1 : zK0 126 1 = ((128 : Nat) : Int) := rfl
theorem zx_129_0 : zK0 129 0 = ((130 : Nat) : Int) := rfl
theorem zx_129_1 : zK0 129 1 = ((131 : Nat) : Int) := rfl
theorem zx_132_0 : zK0 132 0 = ((133 : Nat) : Int) := rfl
theorem zx_132_1 : zK0 132 1 = ((140 : Nat) : Int) := rfl
theorem zx_132_2 : zK0 132 2 = ((141 : Nat) : Int) := rfl
theorem zx_132_3 : zK0 132 3 = ((142 : Nat) : Int) := rfl
theorem zx_132_4 : zK0 132 4 = ((143 : Nat) : Int) := rfl
theorem zx_132_5 : zK0 132 5 = ((144 : Nat) : Int) := rfl
theorem zx_132_6 : zK0 132 6 = ((145 : Nat) : Int) := rfl
theorem zx_132_7 : zK0 132 7 = ((146 : Nat) : Int) := rfl
theorem zx_133_0 : zK0 133 0 = ((134 : Nat) : Int) := rfl
theorem zx_133_1 : zK0 133 1 = ((135 : Nat) : Int) := rfl
theorem zx_133_2 : zK0 133 2 = ((136 : Nat) : Int) := rfl
theorem zx_133_3 : zK0 133 3 = ((137 : Nat) : Int) := rfl
theorem zx_133_4 : zK0 133 4 = ((138 : Nat) : Int) := rfl
theorem zx_133_5 : zK0 133 5 = ((139 : Nat) : Int) := rfl
theorem zx_147_0 : zK0 147 0 = ((148 : Nat) : Int) := rfl
theorem zx_148_0 : zK0 148 0 = ((149 : Nat) : Int) := rfl
theorem zx_148_1 : zK0 148 1 = ((150 : Nat) : Int) := rfl
theorem zx_148_2 : zK0 148 2 = ((151 : Nat) : Int) := rfl
theorem zx_148_3 : zK0 148 3 = ((152 : Nat) : Int) := rfl
theorem zx_148_4 : zK0 148 4 = ((153 : Nat) : Int) := rfl
theorem zx_148_5 : zK0 148 5 = ((154 : Nat) : Int) := rfl
theorem zx_148_6 : zK0 148 6 = ((155 : Nat) : Int) := rfl
theorem zx_148_7 : zK0 148 7 = ((156 : Nat) : Int) := rfl
theorem zx_148_8 : zK0 148 8 = ((157 : Nat) : Int) := rfl
theorem zx_148_9 : zK0 148 9 = ((158 : Nat) : Int) := rfl
theorem zx_148_10 : zK0 148 10 = ((159 : Nat) : Int) := rfl
theorem zx_148_11 : zK0 148 11 = ((160 : Nat) : Int) := rfl
theorem zx_161_0 : zK0 161 0 = ((162 : Nat) : Int) := rfl
theorem zx_161_1 : zK0 161 1 = ((163 : Nat) : Int) := rfl
theorem zx_161_2 : zK0 161 2 = ((164 : Nat) : Int) := rfl
theorem zx_161_3 : zK0 161 3 = ((165 : Nat) : Int) := rfl
theorem zx_161_4 : zK0 161 4 = ((166 : Nat) : Int) := rfl
theorem zx_167_0 : zK0 167 0 = ((168 : Nat) : Int) := rfl
theorem zx_167_1 : zK0 167 1 = ((169 : Nat) : Int) := rfl
theorem zx_167_2 : zK0 167 2 = ((170 : Nat) : Int) := rfl
theorem zx_167_3 : zK0 167 3 = ((171 : Nat) : Int) := rfl
theorem zx_172_0 : zK0 172 0 = ((173 : Nat) : Int) := rfl
theorem zx_174_1 : zK0 174 1 = ((175 : Nat) : Int) := rfl
theorem zx_174_3 : zK0 174 3 = ((176 : Nat) : Int) := rfl
theorem zx_174_4 : zK0 174 4 = ((177 : Nat) : Int) := rfl
theorem zx_174_8 : zK0 174 8 = ((178 : Nat) : Int) := rfl
theorem zx_174_9 : zK0 174 9 = ((179 : Nat) : Int) := rfl
theorem zx_174_10 : zK0 174 10 = ((180 : Nat) : Int) := rfl
theorem zx_174_11 : zK0 174 11 = ((181 : Nat) : Int) := rfl
theorem zx_174_13 : zK0 174 13 = ((182 : Nat) : Int) := rfl
theorem zx_174_15 : zK0 174 15 = ((183 : Nat) : Int) := rfl
theorem zx_174_18 : zK0 174 18 = ((184 : Nat) : Int) := rfl
theorem zx_174_19 : zK0 174 19 = ((185 : Nat) : Int) := rfl
theorem zx_174_21 : zK0 174 21 = ((186 : Nat) : Int) := rfl
theorem zx_174_22 : zK0 174 22 = ((187 : Nat) : Int) := rfl
theorem zx_174_23 : zK0 174 23 = ((188 : Nat) : Int) := rfl
theorem zx_174_24 : zK0 174 24 = ((189 : Nat) : Int) := rfl
theorem zx_174_26 : zK0 174 26 = ((190 : Nat) : Int) := rfl
theorem zx_174_27 : zK0 174 27 = ((191 : Nat) : Int) := rfl
theorem zx_174_29 : zK0 174 29 = ((192 : Nat) : Int) := rfl
theorem zx_174_30 : zK0 174 30 = ((193 : Nat) : Int) := rfl
end
