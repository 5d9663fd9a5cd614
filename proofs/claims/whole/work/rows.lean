section
-- ===== PART A: goes FIRST, ahead of the names: the tables' words, and 'selects' of the private methods out of them =====
/-- a private method of a class that the tables say can be made, by its rows of tables_1 -/
def lw_okq (q : MethodName × Nat) : Prop := (q.1.cls ≠ "java/lang/invoke/MethodHandle" ∧ q.1.cls ≠ "java/lang/invoke/VarHandle") ∧ Cond.instantiable q.1.cls q.2 ∈ tables_1 ∧ Cond.privateMethod q.1 ∈ tables_1 ∧ Cond.instanceMethod q.1 ∈ tables_1
theorem lw_p0 : lw_okq (⟨"GateRoads", "remember", "()V"⟩, 13) := ⟨⟨by decide +kernel, by decide +kernel⟩, List.mem_of_getElem? (i := 14) (by decide +kernel), List.mem_of_getElem? (i := 224) (by decide +kernel), List.mem_of_getElem? (i := 225) (by decide +kernel)⟩
theorem lw_p1 : lw_okq (⟨"GateRoads", "refuse", "(I)I"⟩, 13) := ⟨⟨by decide +kernel, by decide +kernel⟩, List.mem_of_getElem? (i := 14) (by decide +kernel), List.mem_of_getElem? (i := 351) (by decide +kernel), List.mem_of_getElem? (i := 352) (by decide +kernel)⟩
theorem lw_p2 : lw_okq (⟨"GateRoads", "earliestTime", "(III)I"⟩, 13) := ⟨⟨by decide +kernel, by decide +kernel⟩, List.mem_of_getElem? (i := 14) (by decide +kernel), List.mem_of_getElem? (i := 423) (by decide +kernel), List.mem_of_getElem? (i := 424) (by decide +kernel)⟩
theorem lw_p3 : lw_okq (⟨"GateRoads", "firstComing", "(IIIIII)I"⟩, 13) := ⟨⟨by decide +kernel, by decide +kernel⟩, List.mem_of_getElem? (i := 14) (by decide +kernel), List.mem_of_getElem? (i := 434) (by decide +kernel), List.mem_of_getElem? (i := 435) (by decide +kernel)⟩
theorem lw_p4 : lw_okq (⟨"GateRoads$Gates", "letIn", "(LGateRoads$State;II)V"⟩, 2) := ⟨⟨by decide +kernel, by decide +kernel⟩, List.mem_of_getElem? (i := 106) (by decide +kernel), List.mem_of_getElem? (i := 446) (by decide +kernel), List.mem_of_getElem? (i := 447) (by decide +kernel)⟩
theorem lw_p5 : lw_okq (⟨"GateRoads$Gates", "shut", "(LGateRoads$State;I)V"⟩, 2) := ⟨⟨by decide +kernel, by decide +kernel⟩, List.mem_of_getElem? (i := 106) (by decide +kernel), List.mem_of_getElem? (i := 453) (by decide +kernel), List.mem_of_getElem? (i := 454) (by decide +kernel)⟩
theorem lw_p6 : lw_okq (⟨"GateRoads$Onward", "leave", "(LGateRoads$State;III)V"⟩, 2) := ⟨⟨by decide +kernel, by decide +kernel⟩, List.mem_of_getElem? (i := 120) (by decide +kernel), List.mem_of_getElem? (i := 483) (by decide +kernel), List.mem_of_getElem? (i := 484) (by decide +kernel)⟩
theorem lw_p7 : lw_okq (⟨"GateRoads", "fewestRoads", "(IIII)I"⟩, 13) := ⟨⟨by decide +kernel, by decide +kernel⟩, List.mem_of_getElem? (i := 14) (by decide +kernel), List.mem_of_getElem? (i := 513) (by decide +kernel), List.mem_of_getElem? (i := 514) (by decide +kernel)⟩
theorem lw_p8 : lw_okq (⟨"GateRoads$Fewest", "push", "(III)V"⟩, 5) := ⟨⟨by decide +kernel, by decide +kernel⟩, List.mem_of_getElem? (i := 152) (by decide +kernel), List.mem_of_getElem? (i := 522) (by decide +kernel), List.mem_of_getElem? (i := 523) (by decide +kernel)⟩
theorem lw_p9 : lw_okq (⟨"GateRoads$Fewest", "bestAt", "(II)I"⟩, 5) := ⟨⟨by decide +kernel, by decide +kernel⟩, List.mem_of_getElem? (i := 152) (by decide +kernel), List.mem_of_getElem? (i := 534) (by decide +kernel), List.mem_of_getElem? (i := 535) (by decide +kernel)⟩
theorem lw_p10 : lw_okq (⟨"GateRoads$Fewest", "leave", "(LGateRoads$State;II)V"⟩, 5) := ⟨⟨by decide +kernel, by decide +kernel⟩, List.mem_of_getElem? (i := 152) (by decide +kernel), List.mem_of_getElem? (i := 539) (by decide +kernel), List.mem_of_getElem? (i := 540) (by decide +kernel)⟩
theorem lw_p11 : lw_okq (⟨"GateRoads", "lookBack", "(III)V"⟩, 13) := ⟨⟨by decide +kernel, by decide +kernel⟩, List.mem_of_getElem? (i := 14) (by decide +kernel), List.mem_of_getElem? (i := 548) (by decide +kernel), List.mem_of_getElem? (i := 549) (by decide +kernel)⟩
theorem lw_p12 : lw_okq (⟨"GateRoads", "firstRoad", "(II)I"⟩, 13) := ⟨⟨by decide +kernel, by decide +kernel⟩, List.mem_of_getElem? (i := 14) (by decide +kernel), List.mem_of_getElem? (i := 552) (by decide +kernel), List.mem_of_getElem? (i := 553) (by decide +kernel)⟩
theorem lw_p13 : lw_okq (⟨"GateRoads", "firstEntry", "(II)I"⟩, 13) := ⟨⟨by decide +kernel, by decide +kernel⟩, List.mem_of_getElem? (i := 14) (by decide +kernel), List.mem_of_getElem? (i := 556) (by decide +kernel), List.mem_of_getElem? (i := 557) (by decide +kernel)⟩
theorem lw_p14 : lw_okq (⟨"GateRoads", "leadsOn", "(II)Z"⟩, 13) := ⟨⟨by decide +kernel, by decide +kernel⟩, List.mem_of_getElem? (i := 14) (by decide +kernel), List.mem_of_getElem? (i := 560) (by decide +kernel), List.mem_of_getElem? (i := 561) (by decide +kernel)⟩
theorem lw_p15 : lw_okq (⟨"GateRoads", "lastEntry", "(II)I"⟩, 13) := ⟨⟨by decide +kernel, by decide +kernel⟩, List.mem_of_getElem? (i := 14) (by decide +kernel), List.mem_of_getElem? (i := 564) (by decide +kernel), List.mem_of_getElem? (i := 565) (by decide +kernel)⟩
def lw_privs_1 : List (MethodName × Nat) := [(⟨"GateRoads", "remember", "()V"⟩, 13), (⟨"GateRoads", "refuse", "(I)I"⟩, 13), (⟨"GateRoads", "earliestTime", "(III)I"⟩, 13), (⟨"GateRoads", "firstComing", "(IIIIII)I"⟩, 13), (⟨"GateRoads$Gates", "letIn", "(LGateRoads$State;II)V"⟩, 2), (⟨"GateRoads$Gates", "shut", "(LGateRoads$State;I)V"⟩, 2), (⟨"GateRoads$Onward", "leave", "(LGateRoads$State;III)V"⟩, 2), (⟨"GateRoads", "fewestRoads", "(IIII)I"⟩, 13), (⟨"GateRoads$Fewest", "push", "(III)V"⟩, 5), (⟨"GateRoads$Fewest", "bestAt", "(II)I"⟩, 5), (⟨"GateRoads$Fewest", "leave", "(LGateRoads$State;II)V"⟩, 5), (⟨"GateRoads", "lookBack", "(III)V"⟩, 13), (⟨"GateRoads", "firstRoad", "(II)I"⟩, 13), (⟨"GateRoads", "firstEntry", "(II)I"⟩, 13), (⟨"GateRoads", "leadsOn", "(II)Z"⟩, 13), (⟨"GateRoads", "lastEntry", "(II)I"⟩, 13)]
theorem lw_r1 : ∀ q ∈ lw_privs_1, lw_okq q := List.forall_mem_cons.mpr ⟨lw_p0, List.forall_mem_cons.mpr ⟨lw_p1, List.forall_mem_cons.mpr ⟨lw_p2, List.forall_mem_cons.mpr ⟨lw_p3, List.forall_mem_cons.mpr ⟨lw_p4, List.forall_mem_cons.mpr ⟨lw_p5, List.forall_mem_cons.mpr ⟨lw_p6, List.forall_mem_cons.mpr ⟨lw_p7, List.forall_mem_cons.mpr ⟨lw_p8, List.forall_mem_cons.mpr ⟨lw_p9, List.forall_mem_cons.mpr ⟨lw_p10, List.forall_mem_cons.mpr ⟨lw_p11, List.forall_mem_cons.mpr ⟨lw_p12, List.forall_mem_cons.mpr ⟨lw_p13, List.forall_mem_cons.mpr ⟨lw_p14, List.forall_mem_cons.mpr ⟨lw_p15, fun _ h => absurd h List.not_mem_nil⟩⟩⟩⟩⟩⟩⟩⟩⟩⟩⟩⟩⟩⟩⟩⟩
theorem lw_p16 : lw_okq (⟨"GateRoads", "roadsOfOneWay", "(III)I"⟩, 13) := ⟨⟨by decide +kernel, by decide +kernel⟩, List.mem_of_getElem? (i := 14) (by decide +kernel), List.mem_of_getElem? (i := 576) (by decide +kernel), List.mem_of_getElem? (i := 577) (by decide +kernel)⟩
theorem lw_p17 : lw_okq (⟨"GateRoads", "roadLeadingOn", "(II)I"⟩, 13) := ⟨⟨by decide +kernel, by decide +kernel⟩, List.mem_of_getElem? (i := 14) (by decide +kernel), List.mem_of_getElem? (i := 580) (by decide +kernel), List.mem_of_getElem? (i := 581) (by decide +kernel)⟩
theorem lw_p18 : lw_okq (⟨"GateRoads$Pad", "readSpans", "()V"⟩, 9) := ⟨⟨by decide +kernel, by decide +kernel⟩, List.mem_of_getElem? (i := 65) (by decide +kernel), List.mem_of_getElem? (i := 645) (by decide +kernel), List.mem_of_getElem? (i := 646) (by decide +kernel)⟩
theorem lw_p19 : lw_okq (⟨"GateRoads$Pad", "readNumber", "()I"⟩, 9) := ⟨⟨by decide +kernel, by decide +kernel⟩, List.mem_of_getElem? (i := 65) (by decide +kernel), List.mem_of_getElem? (i := 649) (by decide +kernel), List.mem_of_getElem? (i := 650) (by decide +kernel)⟩
theorem lw_p20 : lw_okq (⟨"GateRoads$Pad", "readDigit", "(I)I"⟩, 9) := ⟨⟨by decide +kernel, by decide +kernel⟩, List.mem_of_getElem? (i := 65) (by decide +kernel), List.mem_of_getElem? (i := 653) (by decide +kernel), List.mem_of_getElem? (i := 654) (by decide +kernel)⟩
theorem lw_p21 : lw_okq (⟨"GateRoads$Pad", "digitStands", "(I)Z"⟩, 9) := ⟨⟨by decide +kernel, by decide +kernel⟩, List.mem_of_getElem? (i := 65) (by decide +kernel), List.mem_of_getElem? (i := 657) (by decide +kernel), List.mem_of_getElem? (i := 658) (by decide +kernel)⟩
theorem lw_p22 : lw_okq (⟨"GateRoads$Pad", "expect", "(C)V"⟩, 9) := ⟨⟨by decide +kernel, by decide +kernel⟩, List.mem_of_getElem? (i := 65) (by decide +kernel), List.mem_of_getElem? (i := 661) (by decide +kernel), List.mem_of_getElem? (i := 662) (by decide +kernel)⟩
theorem lw_p23 : lw_okq (⟨"GateRoads$Pad", "stands", "(C)Z"⟩, 9) := ⟨⟨by decide +kernel, by decide +kernel⟩, List.mem_of_getElem? (i := 65) (by decide +kernel), List.mem_of_getElem? (i := 669) (by decide +kernel), List.mem_of_getElem? (i := 670) (by decide +kernel)⟩
theorem lw_p24 : lw_okq (⟨"GateRoads$Pad", "readClock", "()I"⟩, 9) := ⟨⟨by decide +kernel, by decide +kernel⟩, List.mem_of_getElem? (i := 65) (by decide +kernel), List.mem_of_getElem? (i := 673) (by decide +kernel), List.mem_of_getElem? (i := 674) (by decide +kernel)⟩
theorem lw_p25 : lw_okq (⟨"GateRoads$Pad", "readClosure", "()V"⟩, 9) := ⟨⟨by decide +kernel, by decide +kernel⟩, List.mem_of_getElem? (i := 65) (by decide +kernel), List.mem_of_getElem? (i := 677) (by decide +kernel), List.mem_of_getElem? (i := 678) (by decide +kernel)⟩
theorem lw_p26 : lw_okq (⟨"GateRoads$Pad", "readDigitAndNumber", "(C)V"⟩, 9) := ⟨⟨by decide +kernel, by decide +kernel⟩, List.mem_of_getElem? (i := 65) (by decide +kernel), List.mem_of_getElem? (i := 681) (by decide +kernel), List.mem_of_getElem? (i := 682) (by decide +kernel)⟩
theorem lw_p27 : lw_okq (⟨"GateRoads", "carryOrder", "()I"⟩, 13) := ⟨⟨by decide +kernel, by decide +kernel⟩, List.mem_of_getElem? (i := 14) (by decide +kernel), List.mem_of_getElem? (i := 691) (by decide +kernel), List.mem_of_getElem? (i := 692) (by decide +kernel)⟩
theorem lw_p28 : lw_okq (⟨"GateRoads", "tellSpans", "(I)I"⟩, 13) := ⟨⟨by decide +kernel, by decide +kernel⟩, List.mem_of_getElem? (i := 14) (by decide +kernel), List.mem_of_getElem? (i := 695) (by decide +kernel), List.mem_of_getElem? (i := 696) (by decide +kernel)⟩
theorem lw_p29 : lw_okq (⟨"GateRoadsModel", "records", "()V"⟩, 23) := ⟨⟨by decide +kernel, by decide +kernel⟩, List.mem_of_getElem? (i := 729) (by decide +kernel), List.mem_of_getElem? (i := 820) (by decide +kernel), List.mem_of_getElem? (i := 821) (by decide +kernel)⟩
theorem lw_p30 : lw_okq (⟨"GateRoadsModel", "isRoad", "(I)Z"⟩, 23) := ⟨⟨by decide +kernel, by decide +kernel⟩, List.mem_of_getElem? (i := 729) (by decide +kernel), List.mem_of_getElem? (i := 839) (by decide +kernel), List.mem_of_getElem? (i := 840) (by decide +kernel)⟩
theorem lw_p31 : lw_okq (⟨"GateRoadsModel", "isTaken", "(III)Z"⟩, 23) := ⟨⟨by decide +kernel, by decide +kernel⟩, List.mem_of_getElem? (i := 729) (by decide +kernel), List.mem_of_getElem? (i := 850) (by decide +kernel), List.mem_of_getElem? (i := 851) (by decide +kernel)⟩
def lw_privs_2 : List (MethodName × Nat) := [(⟨"GateRoads", "roadsOfOneWay", "(III)I"⟩, 13), (⟨"GateRoads", "roadLeadingOn", "(II)I"⟩, 13), (⟨"GateRoads$Pad", "readSpans", "()V"⟩, 9), (⟨"GateRoads$Pad", "readNumber", "()I"⟩, 9), (⟨"GateRoads$Pad", "readDigit", "(I)I"⟩, 9), (⟨"GateRoads$Pad", "digitStands", "(I)Z"⟩, 9), (⟨"GateRoads$Pad", "expect", "(C)V"⟩, 9), (⟨"GateRoads$Pad", "stands", "(C)Z"⟩, 9), (⟨"GateRoads$Pad", "readClock", "()I"⟩, 9), (⟨"GateRoads$Pad", "readClosure", "()V"⟩, 9), (⟨"GateRoads$Pad", "readDigitAndNumber", "(C)V"⟩, 9), (⟨"GateRoads", "carryOrder", "()I"⟩, 13), (⟨"GateRoads", "tellSpans", "(I)I"⟩, 13), (⟨"GateRoadsModel", "records", "()V"⟩, 23), (⟨"GateRoadsModel", "isRoad", "(I)Z"⟩, 23), (⟨"GateRoadsModel", "isTaken", "(III)Z"⟩, 23)]
theorem lw_r2 : ∀ q ∈ lw_privs_2, lw_okq q := List.forall_mem_cons.mpr ⟨lw_p16, List.forall_mem_cons.mpr ⟨lw_p17, List.forall_mem_cons.mpr ⟨lw_p18, List.forall_mem_cons.mpr ⟨lw_p19, List.forall_mem_cons.mpr ⟨lw_p20, List.forall_mem_cons.mpr ⟨lw_p21, List.forall_mem_cons.mpr ⟨lw_p22, List.forall_mem_cons.mpr ⟨lw_p23, List.forall_mem_cons.mpr ⟨lw_p24, List.forall_mem_cons.mpr ⟨lw_p25, List.forall_mem_cons.mpr ⟨lw_p26, List.forall_mem_cons.mpr ⟨lw_p27, List.forall_mem_cons.mpr ⟨lw_p28, List.forall_mem_cons.mpr ⟨lw_p29, List.forall_mem_cons.mpr ⟨lw_p30, List.forall_mem_cons.mpr ⟨lw_p31, fun _ h => absurd h List.not_mem_nil⟩⟩⟩⟩⟩⟩⟩⟩⟩⟩⟩⟩⟩⟩⟩⟩
theorem lw_p32 : lw_okq (⟨"GateRoadsModel", "ofR", "(II)I"⟩, 23) := ⟨⟨by decide +kernel, by decide +kernel⟩, List.mem_of_getElem? (i := 729) (by decide +kernel), List.mem_of_getElem? (i := 854) (by decide +kernel), List.mem_of_getElem? (i := 855) (by decide +kernel)⟩
theorem lw_p33 : lw_okq (⟨"GateRoadsModel", "adds", "(III)V"⟩, 23) := ⟨⟨by decide +kernel, by decide +kernel⟩, List.mem_of_getElem? (i := 729) (by decide +kernel), List.mem_of_getElem? (i := 858) (by decide +kernel), List.mem_of_getElem? (i := 859) (by decide +kernel)⟩
theorem lw_p34 : lw_okq (⟨"GateRoadsModel", "checksClosing", "(III)I"⟩, 23) := ⟨⟨by decide +kernel, by decide +kernel⟩, List.mem_of_getElem? (i := 729) (by decide +kernel), List.mem_of_getElem? (i := 866) (by decide +kernel), List.mem_of_getElem? (i := 867) (by decide +kernel)⟩
theorem lw_p35 : lw_okq (⟨"GateRoadsModel", "closes", "(III)I"⟩, 23) := ⟨⟨by decide +kernel, by decide +kernel⟩, List.mem_of_getElem? (i := 729) (by decide +kernel), List.mem_of_getElem? (i := 870) (by decide +kernel), List.mem_of_getElem? (i := 871) (by decide +kernel)⟩
theorem lw_p36 : lw_okq (⟨"GateRoadsModel", "whyNot", "(II)I"⟩, 23) := ⟨⟨by decide +kernel, by decide +kernel⟩, List.mem_of_getElem? (i := 729) (by decide +kernel), List.mem_of_getElem? (i := 885) (by decide +kernel), List.mem_of_getElem? (i := 886) (by decide +kernel)⟩
theorem lw_p37 : lw_okq (⟨"GateRoadsModel", "spanEnd", "(II)I"⟩, 23) := ⟨⟨by decide +kernel, by decide +kernel⟩, List.mem_of_getElem? (i := 729) (by decide +kernel), List.mem_of_getElem? (i := 889) (by decide +kernel), List.mem_of_getElem? (i := 890) (by decide +kernel)⟩
theorem lw_p38 : lw_okq (⟨"GateRoadsModel", "isClosed", "(II)Z"⟩, 23) := ⟨⟨by decide +kernel, by decide +kernel⟩, List.mem_of_getElem? (i := 729) (by decide +kernel), List.mem_of_getElem? (i := 893) (by decide +kernel), List.mem_of_getElem? (i := 894) (by decide +kernel)⟩
theorem lw_p39 : lw_okq (⟨"GateRoadsModel", "checksGoing", "(II)I"⟩, 23) := ⟨⟨by decide +kernel, by decide +kernel⟩, List.mem_of_getElem? (i := 729) (by decide +kernel), List.mem_of_getElem? (i := 905) (by decide +kernel), List.mem_of_getElem? (i := 906) (by decide +kernel)⟩
theorem lw_p40 : lw_okq (⟨"GateRoadsModel", "isTraveller", "(I)Z"⟩, 23) := ⟨⟨by decide +kernel, by decide +kernel⟩, List.mem_of_getElem? (i := 729) (by decide +kernel), List.mem_of_getElem? (i := 909) (by decide +kernel), List.mem_of_getElem? (i := 910) (by decide +kernel)⟩
theorem lw_p41 : lw_okq (⟨"GateRoadsModel", "ofT", "(II)I"⟩, 23) := ⟨⟨by decide +kernel, by decide +kernel⟩, List.mem_of_getElem? (i := 729) (by decide +kernel), List.mem_of_getElem? (i := 913) (by decide +kernel), List.mem_of_getElem? (i := 914) (by decide +kernel)⟩
theorem lw_p42 : lw_okq (⟨"GateRoadsModel", "refuses", "(I)I"⟩, 23) := ⟨⟨by decide +kernel, by decide +kernel⟩, List.mem_of_getElem? (i := 729) (by decide +kernel), List.mem_of_getElem? (i := 917) (by decide +kernel), List.mem_of_getElem? (i := 918) (by decide +kernel)⟩
theorem lw_p43 : lw_okq (⟨"GateRoadsModel", "goes", "(II)I"⟩, 23) := ⟨⟨by decide +kernel, by decide +kernel⟩, List.mem_of_getElem? (i := 729) (by decide +kernel), List.mem_of_getElem? (i := 921) (by decide +kernel), List.mem_of_getElem? (i := 922) (by decide +kernel)⟩
theorem lw_p44 : lw_okq (⟨"GateRoadsModel", "checksStaying", "(II)I"⟩, 23) := ⟨⟨by decide +kernel, by decide +kernel⟩, List.mem_of_getElem? (i := 729) (by decide +kernel), List.mem_of_getElem? (i := 929) (by decide +kernel), List.mem_of_getElem? (i := 930) (by decide +kernel)⟩
theorem lw_p45 : lw_okq (⟨"GateRoadsModel", "isRoomOpen", "(II)Z"⟩, 23) := ⟨⟨by decide +kernel, by decide +kernel⟩, List.mem_of_getElem? (i := 729) (by decide +kernel), List.mem_of_getElem? (i := 933) (by decide +kernel), List.mem_of_getElem? (i := 934) (by decide +kernel)⟩
theorem lw_p46 : lw_okq (⟨"GateRoadsModel", "limitOf", "(I)I"⟩, 23) := ⟨⟨by decide +kernel, by decide +kernel⟩, List.mem_of_getElem? (i := 729) (by decide +kernel), List.mem_of_getElem? (i := 937) (by decide +kernel), List.mem_of_getElem? (i := 938) (by decide +kernel)⟩
theorem lw_p47 : lw_okq (⟨"GateRoadsModel", "stays", "(II)I"⟩, 23) := ⟨⟨by decide +kernel, by decide +kernel⟩, List.mem_of_getElem? (i := 729) (by decide +kernel), List.mem_of_getElem? (i := 941) (by decide +kernel), List.mem_of_getElem? (i := 942) (by decide +kernel)⟩
def lw_privs_3 : List (MethodName × Nat) := [(⟨"GateRoadsModel", "ofR", "(II)I"⟩, 23), (⟨"GateRoadsModel", "adds", "(III)V"⟩, 23), (⟨"GateRoadsModel", "checksClosing", "(III)I"⟩, 23), (⟨"GateRoadsModel", "closes", "(III)I"⟩, 23), (⟨"GateRoadsModel", "whyNot", "(II)I"⟩, 23), (⟨"GateRoadsModel", "spanEnd", "(II)I"⟩, 23), (⟨"GateRoadsModel", "isClosed", "(II)Z"⟩, 23), (⟨"GateRoadsModel", "checksGoing", "(II)I"⟩, 23), (⟨"GateRoadsModel", "isTraveller", "(I)Z"⟩, 23), (⟨"GateRoadsModel", "ofT", "(II)I"⟩, 23), (⟨"GateRoadsModel", "refuses", "(I)I"⟩, 23), (⟨"GateRoadsModel", "goes", "(II)I"⟩, 23), (⟨"GateRoadsModel", "checksStaying", "(II)I"⟩, 23), (⟨"GateRoadsModel", "isRoomOpen", "(II)Z"⟩, 23), (⟨"GateRoadsModel", "limitOf", "(I)I"⟩, 23), (⟨"GateRoadsModel", "stays", "(II)I"⟩, 23)]
theorem lw_r3 : ∀ q ∈ lw_privs_3, lw_okq q := List.forall_mem_cons.mpr ⟨lw_p32, List.forall_mem_cons.mpr ⟨lw_p33, List.forall_mem_cons.mpr ⟨lw_p34, List.forall_mem_cons.mpr ⟨lw_p35, List.forall_mem_cons.mpr ⟨lw_p36, List.forall_mem_cons.mpr ⟨lw_p37, List.forall_mem_cons.mpr ⟨lw_p38, List.forall_mem_cons.mpr ⟨lw_p39, List.forall_mem_cons.mpr ⟨lw_p40, List.forall_mem_cons.mpr ⟨lw_p41, List.forall_mem_cons.mpr ⟨lw_p42, List.forall_mem_cons.mpr ⟨lw_p43, List.forall_mem_cons.mpr ⟨lw_p44, List.forall_mem_cons.mpr ⟨lw_p45, List.forall_mem_cons.mpr ⟨lw_p46, List.forall_mem_cons.mpr ⟨lw_p47, fun _ h => absurd h List.not_mem_nil⟩⟩⟩⟩⟩⟩⟩⟩⟩⟩⟩⟩⟩⟩⟩⟩
theorem lw_p48 : lw_okq (⟨"GateRoadsModel", "roadsBy", "(II)I"⟩, 23) := ⟨⟨by decide +kernel, by decide +kernel⟩, List.mem_of_getElem? (i := 729) (by decide +kernel), List.mem_of_getElem? (i := 949) (by decide +kernel), List.mem_of_getElem? (i := 950) (by decide +kernel)⟩
theorem lw_p49 : lw_okq (⟨"GateRoadsModel", "earliestOf", "(III)I"⟩, 23) := ⟨⟨by decide +kernel, by decide +kernel⟩, List.mem_of_getElem? (i := 729) (by decide +kernel), List.mem_of_getElem? (i := 973) (by decide +kernel), List.mem_of_getElem? (i := 974) (by decide +kernel)⟩
theorem lw_p50 : lw_okq (⟨"GateRoadsModel", "spreads", "(IIII)V"⟩, 23) := ⟨⟨by decide +kernel, by decide +kernel⟩, List.mem_of_getElem? (i := 729) (by decide +kernel), List.mem_of_getElem? (i := 977) (by decide +kernel), List.mem_of_getElem? (i := 978) (by decide +kernel)⟩
theorem lw_p51 : lw_okq (⟨"GateRoadsModel", "firstAt", "(I)I"⟩, 23) := ⟨⟨by decide +kernel, by decide +kernel⟩, List.mem_of_getElem? (i := 729) (by decide +kernel), List.mem_of_getElem? (i := 984) (by decide +kernel), List.mem_of_getElem? (i := 985) (by decide +kernel)⟩
theorem lw_p52 : lw_okq (⟨"GateRoadsModel", "goesBack", "(II)V"⟩, 23) := ⟨⟨by decide +kernel, by decide +kernel⟩, List.mem_of_getElem? (i := 729) (by decide +kernel), List.mem_of_getElem? (i := 992) (by decide +kernel), List.mem_of_getElem? (i := 993) (by decide +kernel)⟩
theorem lw_p53 : lw_okq (⟨"GateRoadsModel", "leadsOn", "(III)Z"⟩, 23) := ⟨⟨by decide +kernel, by decide +kernel⟩, List.mem_of_getElem? (i := 729) (by decide +kernel), List.mem_of_getElem? (i := 996) (by decide +kernel), List.mem_of_getElem? (i := 997) (by decide +kernel)⟩
theorem lw_p54 : lw_okq (⟨"GateRoadsModel", "fewestRoads", "(IIII)I"⟩, 23) := ⟨⟨by decide +kernel, by decide +kernel⟩, List.mem_of_getElem? (i := 729) (by decide +kernel), List.mem_of_getElem? (i := 1004) (by decide +kernel), List.mem_of_getElem? (i := 1005) (by decide +kernel)⟩
theorem lw_p55 : lw_okq (⟨"GateRoadsModel", "fewestAt", "(III)I"⟩, 23) := ⟨⟨by decide +kernel, by decide +kernel⟩, List.mem_of_getElem? (i := 729) (by decide +kernel), List.mem_of_getElem? (i := 1009) (by decide +kernel), List.mem_of_getElem? (i := 1010) (by decide +kernel)⟩
theorem lw_p56 : lw_okq (⟨"GateRoadsModel", "beginsAt", "(IIIZ)I"⟩, 23) := ⟨⟨by decide +kernel, by decide +kernel⟩, List.mem_of_getElem? (i := 729) (by decide +kernel), List.mem_of_getElem? (i := 1013) (by decide +kernel), List.mem_of_getElem? (i := 1014) (by decide +kernel)⟩
theorem lw_p57 : lw_okq (⟨"GateRoadsModel", "spreadsFrom", "(I)V"⟩, 23) := ⟨⟨by decide +kernel, by decide +kernel⟩, List.mem_of_getElem? (i := 729) (by decide +kernel), List.mem_of_getElem? (i := 1029) (by decide +kernel), List.mem_of_getElem? (i := 1030) (by decide +kernel)⟩
theorem lw_p58 : lw_okq (⟨"GateRoadsModel", "passesOrder", "()Z"⟩, 23) := ⟨⟨by decide +kernel, by decide +kernel⟩, List.mem_of_getElem? (i := 729) (by decide +kernel), List.mem_of_getElem? (i := 1054) (by decide +kernel), List.mem_of_getElem? (i := 1055) (by decide +kernel)⟩
theorem lw_p59 : lw_okq (⟨"GateRoadsModel", "passesSpans", "()Z"⟩, 23) := ⟨⟨by decide +kernel, by decide +kernel⟩, List.mem_of_getElem? (i := 729) (by decide +kernel), List.mem_of_getElem? (i := 1058) (by decide +kernel), List.mem_of_getElem? (i := 1059) (by decide +kernel)⟩
theorem lw_p60 : lw_okq (⟨"GateRoadsModel", "passesNumber", "()Z"⟩, 23) := ⟨⟨by decide +kernel, by decide +kernel⟩, List.mem_of_getElem? (i := 729) (by decide +kernel), List.mem_of_getElem? (i := 1062) (by decide +kernel), List.mem_of_getElem? (i := 1063) (by decide +kernel)⟩
theorem lw_p61 : lw_okq (⟨"GateRoadsModel", "passes", "(II)Z"⟩, 23) := ⟨⟨by decide +kernel, by decide +kernel⟩, List.mem_of_getElem? (i := 729) (by decide +kernel), List.mem_of_getElem? (i := 1066) (by decide +kernel), List.mem_of_getElem? (i := 1067) (by decide +kernel)⟩
theorem lw_p62 : lw_okq (⟨"GateRoadsModel", "isDigitHere", "()Z"⟩, 23) := ⟨⟨by decide +kernel, by decide +kernel⟩, List.mem_of_getElem? (i := 729) (by decide +kernel), List.mem_of_getElem? (i := 1070) (by decide +kernel), List.mem_of_getElem? (i := 1071) (by decide +kernel)⟩
theorem lw_p63 : lw_okq (⟨"GateRoadsModel", "passesHours", "()Z"⟩, 23) := ⟨⟨by decide +kernel, by decide +kernel⟩, List.mem_of_getElem? (i := 729) (by decide +kernel), List.mem_of_getElem? (i := 1074) (by decide +kernel), List.mem_of_getElem? (i := 1075) (by decide +kernel)⟩
def lw_privs_4 : List (MethodName × Nat) := [(⟨"GateRoadsModel", "roadsBy", "(II)I"⟩, 23), (⟨"GateRoadsModel", "earliestOf", "(III)I"⟩, 23), (⟨"GateRoadsModel", "spreads", "(IIII)V"⟩, 23), (⟨"GateRoadsModel", "firstAt", "(I)I"⟩, 23), (⟨"GateRoadsModel", "goesBack", "(II)V"⟩, 23), (⟨"GateRoadsModel", "leadsOn", "(III)Z"⟩, 23), (⟨"GateRoadsModel", "fewestRoads", "(IIII)I"⟩, 23), (⟨"GateRoadsModel", "fewestAt", "(III)I"⟩, 23), (⟨"GateRoadsModel", "beginsAt", "(IIIZ)I"⟩, 23), (⟨"GateRoadsModel", "spreadsFrom", "(I)V"⟩, 23), (⟨"GateRoadsModel", "passesOrder", "()Z"⟩, 23), (⟨"GateRoadsModel", "passesSpans", "()Z"⟩, 23), (⟨"GateRoadsModel", "passesNumber", "()Z"⟩, 23), (⟨"GateRoadsModel", "passes", "(II)Z"⟩, 23), (⟨"GateRoadsModel", "isDigitHere", "()Z"⟩, 23), (⟨"GateRoadsModel", "passesHours", "()Z"⟩, 23)]
theorem lw_r4 : ∀ q ∈ lw_privs_4, lw_okq q := List.forall_mem_cons.mpr ⟨lw_p48, List.forall_mem_cons.mpr ⟨lw_p49, List.forall_mem_cons.mpr ⟨lw_p50, List.forall_mem_cons.mpr ⟨lw_p51, List.forall_mem_cons.mpr ⟨lw_p52, List.forall_mem_cons.mpr ⟨lw_p53, List.forall_mem_cons.mpr ⟨lw_p54, List.forall_mem_cons.mpr ⟨lw_p55, List.forall_mem_cons.mpr ⟨lw_p56, List.forall_mem_cons.mpr ⟨lw_p57, List.forall_mem_cons.mpr ⟨lw_p58, List.forall_mem_cons.mpr ⟨lw_p59, List.forall_mem_cons.mpr ⟨lw_p60, List.forall_mem_cons.mpr ⟨lw_p61, List.forall_mem_cons.mpr ⟨lw_p62, List.forall_mem_cons.mpr ⟨lw_p63, fun _ h => absurd h List.not_mem_nil⟩⟩⟩⟩⟩⟩⟩⟩⟩⟩⟩⟩⟩⟩⟩⟩
theorem lw_p64 : lw_okq (⟨"GateRoadsModel", "passesClock", "()Z"⟩, 23) := ⟨⟨by decide +kernel, by decide +kernel⟩, List.mem_of_getElem? (i := 729) (by decide +kernel), List.mem_of_getElem? (i := 1078) (by decide +kernel), List.mem_of_getElem? (i := 1079) (by decide +kernel)⟩
theorem lw_p65 : lw_okq (⟨"GateRoadsModel", "passesClosing", "()Z"⟩, 23) := ⟨⟨by decide +kernel, by decide +kernel⟩, List.mem_of_getElem? (i := 729) (by decide +kernel), List.mem_of_getElem? (i := 1082) (by decide +kernel), List.mem_of_getElem? (i := 1083) (by decide +kernel)⟩
theorem lw_p66 : lw_okq (⟨"GateRoadsModel", "passesTravel", "(I)Z"⟩, 23) := ⟨⟨by decide +kernel, by decide +kernel⟩, List.mem_of_getElem? (i := 729) (by decide +kernel), List.mem_of_getElem? (i := 1086) (by decide +kernel), List.mem_of_getElem? (i := 1087) (by decide +kernel)⟩
theorem lw_p67 : lw_okq (⟨"GateRoadsModel", "does", "()I"⟩, 23) := ⟨⟨by decide +kernel, by decide +kernel⟩, List.mem_of_getElem? (i := 729) (by decide +kernel), List.mem_of_getElem? (i := 1095) (by decide +kernel), List.mem_of_getElem? (i := 1096) (by decide +kernel)⟩
theorem lw_p68 : lw_okq (⟨"GateRoadsModel", "doesSpans", "()I"⟩, 23) := ⟨⟨by decide +kernel, by decide +kernel⟩, List.mem_of_getElem? (i := 729) (by decide +kernel), List.mem_of_getElem? (i := 1099) (by decide +kernel), List.mem_of_getElem? (i := 1100) (by decide +kernel)⟩
def lw_privs_5 : List (MethodName × Nat) := [(⟨"GateRoadsModel", "passesClock", "()Z"⟩, 23), (⟨"GateRoadsModel", "passesClosing", "()Z"⟩, 23), (⟨"GateRoadsModel", "passesTravel", "(I)Z"⟩, 23), (⟨"GateRoadsModel", "does", "()I"⟩, 23), (⟨"GateRoadsModel", "doesSpans", "()I"⟩, 23)]
theorem lw_r5 : ∀ q ∈ lw_privs_5, lw_okq q := List.forall_mem_cons.mpr ⟨lw_p64, List.forall_mem_cons.mpr ⟨lw_p65, List.forall_mem_cons.mpr ⟨lw_p66, List.forall_mem_cons.mpr ⟨lw_p67, List.forall_mem_cons.mpr ⟨lw_p68, fun _ h => absurd h List.not_mem_nil⟩⟩⟩⟩⟩
def lw_privs : List (MethodName × Nat) := lw_privs_1 ++ (lw_privs_2 ++ (lw_privs_3 ++ (lw_privs_4 ++ (lw_privs_5))))
def lw_tbl : List Cond := k2_sels lw_privs ++ tables_1
theorem lw_privs_ok : ∀ q ∈ lw_privs, lw_okq q := by
  show ∀ q ∈ lw_privs_1 ++ (lw_privs_2 ++ (lw_privs_3 ++ (lw_privs_4 ++ (lw_privs_5)))), lw_okq q
  exact List.forall_mem_append.mpr ⟨lw_r1, List.forall_mem_append.mpr ⟨lw_r2, List.forall_mem_append.mpr ⟨lw_r3, List.forall_mem_append.mpr ⟨lw_r4, lw_r5⟩⟩⟩⟩
end
section
def R_S : String := "GateRoads$State"
def F_S : u_T := fun k => match k with
  | 0 => ("GateRoads$State", "rooms", "[I", true)
  | 1 => ("GateRoads$State", "roads", "[I", true)
  | 2 => ("GateRoads$State", "entered", "[I", true)
  | 3 => ("GateRoads$State", "closures", "[I", true)
  | 4 => ("GateRoads$State", "travellers", "[I", true)
  | 5 => ("GateRoads$State", "roadCount", "I", false)
  | 6 => ("GateRoads$State", "closureCount", "I", false)
  | _ => ("GateRoads$State", "travellerCount", "I", false)
def t_S : Nat → FieldType := fun k => match k with
  | 0 => .array .int
  | 1 => .array .int
  | 2 => .array .int
  | 3 => .array .int
  | 4 => .array .int
  | 5 => .int
  | 6 => .int
  | _ => .int
theorem n_S : ∀ a, a < 8 → ∀ b, b < 8 → a ≠ b → (F_S a).2.1 ≠ (F_S b).2.1 := by decide +kernel
theorem t_S_ok : ∀ k, k < 8 → parseFieldDescriptor (F_S k).2.2.1 = some (t_S k) := by decide +kernel
theorem i_S : ∀ w ∈ u_ws R_S F_S 8, w ∈ lw_tbl := by decide +kernel
def R_X : String := "GateRoads"
def F_X : u_T := fun k => match k with
  | 0 => ("GateRoads", "now", "LGateRoads$State;", true)
  | 1 => ("GateRoads", "history", "[LGateRoads$State;", true)
  | 2 => ("GateRoads", "changes", "I", false)
  | 3 => ("GateRoads", "slots", "[LGateRoads$State;", true)
  | 4 => ("GateRoads", "saved", "[Z", true)
  | 5 => ("GateRoads", "reason", "I", false)
  | 6 => ("GateRoads", "pad", "LGateRoads$Pad;", true)
  | 7 => ("GateRoads", "carrying", "Z", false)
  | 8 => ("GateRoads", "gates", "LGateRoads$Gates;", true)
  | 9 => ("GateRoads", "onward", "LGateRoads$Onward;", true)
  | 10 => ("GateRoads", "otherOnward", "LGateRoads$Onward;", true)
  | 11 => ("GateRoads", "backward", "LGateRoads$Backward;", true)
  | _ => ("GateRoads", "fewest", "LGateRoads$Fewest;", true)
def t_X : Nat → FieldType := fun k => match k with
  | 0 => .object "GateRoads$State"
  | 1 => .array (.object "GateRoads$State")
  | 2 => .int
  | 3 => .array (.object "GateRoads$State")
  | 4 => .array .boolean
  | 5 => .int
  | 6 => .object "GateRoads$Pad"
  | 7 => .boolean
  | 8 => .object "GateRoads$Gates"
  | 9 => .object "GateRoads$Onward"
  | 10 => .object "GateRoads$Onward"
  | 11 => .object "GateRoads$Backward"
  | _ => .object "GateRoads$Fewest"
theorem n_X : ∀ a, a < 13 → ∀ b, b < 13 → a ≠ b → (F_X a).2.1 ≠ (F_X b).2.1 := by decide +kernel
theorem t_X_ok : ∀ k, k < 13 → parseFieldDescriptor (F_X k).2.2.1 = some (t_X k) := by decide +kernel
theorem i_X : ∀ w ∈ u_ws R_X F_X 13, w ∈ lw_tbl := by decide +kernel
def R_P : String := "GateRoads$Pad"
def F_P : u_T := fun k => match k with
  | 0 => ("GateRoads$Pad", "text", "[C", true)
  | 1 => ("GateRoads$Pad", "length", "I", false)
  | 2 => ("GateRoads$Pad", "at", "I", false)
  | 3 => ("GateRoads$Pad", "wrong", "Z", false)
  | 4 => ("GateRoads$Pad", "kind", "I", false)
  | 5 => ("GateRoads$Pad", "numbers", "[I", true)
  | 6 => ("GateRoads$Pad", "clocks", "[I", true)
  | 7 => ("GateRoads$Pad", "spans", "I", false)
  | _ => ("GateRoads$Pad", "strict", "I", false)
def t_P : Nat → FieldType := fun k => match k with
  | 0 => .array .char
  | 1 => .int
  | 2 => .int
  | 3 => .boolean
  | 4 => .int
  | 5 => .array .int
  | 6 => .array .int
  | 7 => .int
  | _ => .int
theorem n_P : ∀ a, a < 9 → ∀ b, b < 9 → a ≠ b → (F_P a).2.1 ≠ (F_P b).2.1 := by decide +kernel
theorem t_P_ok : ∀ k, k < 9 → parseFieldDescriptor (F_P k).2.2.1 = some (t_P k) := by decide +kernel
theorem i_P : ∀ w ∈ u_ws R_P F_P 9, w ∈ lw_tbl := by decide +kernel
def R_G : String := "GateRoads$Gates"
def F_G : u_T := fun k => match k with
  | 0 => ("GateRoads$Gates", "roadsAt", "[I", true)
  | _ => ("GateRoads$Gates", "ready", "Z", false)
def t_G : Nat → FieldType := fun k => match k with
  | 0 => .array .int
  | _ => .boolean
theorem n_G : ∀ a, a < 2 → ∀ b, b < 2 → a ≠ b → (F_G a).2.1 ≠ (F_G b).2.1 := by decide +kernel
theorem t_G_ok : ∀ k, k < 2 → parseFieldDescriptor (F_G k).2.2.1 = some (t_G k) := by decide +kernel
theorem i_G : ∀ w ∈ u_ws R_G F_G 2, w ∈ lw_tbl := by decide +kernel
def R_O : String := "GateRoads$Onward"
def F_O : u_T := fun k => match k with
  | 0 => ("GateRoads$Onward", "comers", "[I", true)
  | _ => ("GateRoads$Onward", "until", "[I", true)
def t_O : Nat → FieldType := fun k => match k with
  | 0 => .array .int
  | _ => .array .int
theorem n_O : ∀ a, a < 2 → ∀ b, b < 2 → a ≠ b → (F_O a).2.1 ≠ (F_O b).2.1 := by decide +kernel
theorem t_O_ok : ∀ k, k < 2 → parseFieldDescriptor (F_O k).2.2.1 = some (t_O k) := by decide +kernel
theorem i_O : ∀ w ∈ u_ws R_O F_O 2, w ∈ lw_tbl := by decide +kernel
def R_B : String := "GateRoads$Backward"
def F_B : u_T := fun k => match k with
  | 0 => ("GateRoads$Backward", "leading", "[I", true)
  | 1 => ("GateRoads$Backward", "nextEntry", "[I", true)
  | 2 => ("GateRoads$Backward", "goal", "I", false)
  | _ => ("GateRoads$Backward", "by", "I", false)
def t_B : Nat → FieldType := fun k => match k with
  | 0 => .array .int
  | 1 => .array .int
  | 2 => .int
  | _ => .int
theorem n_B : ∀ a, a < 4 → ∀ b, b < 4 → a ≠ b → (F_B a).2.1 ≠ (F_B b).2.1 := by decide +kernel
theorem t_B_ok : ∀ k, k < 4 → parseFieldDescriptor (F_B k).2.2.1 = some (t_B k) := by decide +kernel
theorem i_B : ∀ w ∈ u_ws R_B F_B 4, w ∈ lw_tbl := by decide +kernel
def R_F : String := "GateRoads$Fewest"
def F_F : u_T := fun k => match k with
  | 0 => ("GateRoads$Fewest", "coming", "[I", true)
  | 1 => ("GateRoads$Fewest", "queue", "[I", true)
  | 2 => ("GateRoads$Fewest", "head", "[I", true)
  | 3 => ("GateRoads$Fewest", "tail", "[I", true)
  | _ => ("GateRoads$Fewest", "best", "[I", true)
def t_F : Nat → FieldType := fun k => match k with
  | 0 => .array .int
  | 1 => .array .int
  | 2 => .array .int
  | 3 => .array .int
  | _ => .array .int
theorem n_F : ∀ a, a < 5 → ∀ b, b < 5 → a ≠ b → (F_F a).2.1 ≠ (F_F b).2.1 := by decide +kernel
theorem t_F_ok : ∀ k, k < 5 → parseFieldDescriptor (F_F k).2.2.1 = some (t_F k) := by decide +kernel
theorem i_F : ∀ w ∈ u_ws R_F F_F 5, w ∈ lw_tbl := by decide +kernel
def R_M : String := "GateRoadsModel"
def F_M : u_T := fun k => match k with
  | 0 => ("GateRoadsModel", "now", "[I", true)
  | 1 => ("GateRoadsModel", "past", "[I", true)
  | 2 => ("GateRoadsModel", "slots", "[I", true)
  | 3 => ("GateRoadsModel", "isSaved", "[I", true)
  | 4 => ("GateRoadsModel", "states", "I", false)
  | 5 => ("GateRoadsModel", "reason", "I", false)
  | 6 => ("GateRoadsModel", "pad", "[I", true)
  | 7 => ("GateRoadsModel", "padLength", "I", false)
  | 8 => ("GateRoadsModel", "comes", "[I", true)
  | 9 => ("GateRoadsModel", "there", "[I", true)
  | 10 => ("GateRoadsModel", "otherThere", "[I", true)
  | 11 => ("GateRoadsModel", "good", "[I", true)
  | 12 => ("GateRoadsModel", "last", "[I", true)
  | 13 => ("GateRoadsModel", "fewest", "[I", true)
  | 14 => ("GateRoadsModel", "at", "I", false)
  | 15 => ("GateRoadsModel", "kind", "I", false)
  | 16 => ("GateRoadsModel", "first", "I", false)
  | 17 => ("GateRoadsModel", "second", "I", false)
  | 18 => ("GateRoadsModel", "third", "I", false)
  | 19 => ("GateRoadsModel", "hours", "I", false)
  | 20 => ("GateRoadsModel", "isStrict", "I", false)
  | 21 => ("GateRoadsModel", "value", "I", false)
  | _ => ("GateRoadsModel", "clocks", "[I", true)
def t_M : Nat → FieldType := fun k => match k with
  | 0 => .array .int
  | 1 => .array .int
  | 2 => .array .int
  | 3 => .array .int
  | 4 => .int
  | 5 => .int
  | 6 => .array .int
  | 7 => .int
  | 8 => .array .int
  | 9 => .array .int
  | 10 => .array .int
  | 11 => .array .int
  | 12 => .array .int
  | 13 => .array .int
  | 14 => .int
  | 15 => .int
  | 16 => .int
  | 17 => .int
  | 18 => .int
  | 19 => .int
  | 20 => .int
  | 21 => .int
  | _ => .array .int
theorem n_M : ∀ a, a < 23 → ∀ b, b < 23 → a ≠ b → (F_M a).2.1 ≠ (F_M b).2.1 := by decide +kernel
theorem t_M_ok : ∀ k, k < 23 → parseFieldDescriptor (F_M k).2.2.1 = some (t_M k) := by decide +kernel
theorem i_M : ∀ w ∈ u_ws R_M F_M 23, w ∈ lw_tbl := by decide +kernel
abbrev zCl : List vw_C := [(R_S, F_S, 8), (R_X, F_X, 13), (R_P, F_P, 9), (R_G, F_G, 2), (R_O, F_O, 2), (R_B, F_B, 4), (R_F, F_F, 5), (R_M, F_M, 23)]
abbrev zSh : Type := (Nat × Nat) ⊕ (Nat × List Int)
def zShp : List zSh := [.inr (0, [1, 2, 3, 4, 5, -1, -1, -1]), .inl (0, 24), .inl (0, 264), .inl (0, 24), .inl (0, 60), .inl (0, 80), .inr (0, [7, 8, 9, 10, 11, -1, -1, -1]), .inl (0, 24), .inl (0, 264), .inl (0, 24), .inl (0, 60), .inl (0, 80), .inr (0, [13, 14, 15, 16, 17, -1, -1, -1]), .inl (0, 24), .inl (0, 264), .inl (0, 24), .inl (0, 60), .inl (0, 80), .inr (0, [19, 20, 21, 22, 23, -1, -1, -1]), .inl (0, 24), .inl (0, 264), .inl (0, 24), .inl (0, 60), .inl (0, 80), .inr (0, [25, 26, 27, 28, 29, -1, -1, -1]), .inl (0, 24), .inl (0, 264), .inl (0, 24), .inl (0, 60), .inl (0, 80), .inr (0, [31, 32, 33, 34, 35, -1, -1, -1]), .inl (0, 24), .inl (0, 264), .inl (0, 24), .inl (0, 60), .inl (0, 80), .inr (0, [37, 38, 39, 40, 41, -1, -1, -1]), .inl (0, 24), .inl (0, 264), .inl (0, 24), .inl (0, 60), .inl (0, 80), .inr (0, [43, 44, 45, 46, 47, -1, -1, -1]), .inl (0, 24), .inl (0, 264), .inl (0, 24), .inl (0, 60), .inl (0, 80), .inr (0, [49, 50, 51, 52, 53, -1, -1, -1]), .inl (0, 24), .inl (0, 264), .inl (0, 24), .inl (0, 60), .inl (0, 80), .inr (1, [0, 55, -1, 56, 57, -1, 58, -1, 62, 64, 67, 70, 73]), .inl (3, 6), .inl (3, 2), .inl (1, 2), .inr (2, [59, -1, -1, -1, -1, 60, 61, -1, -1]), .inl (2, 80), .inl (0, 3), .inl (0, 6), .inr (3, [63, -1]), .inl (0, 2881), .inr (4, [65, 66]), .inl (0, 1024), .inl (0, 8), .inr (4, [68, 69]), .inl (0, 1024), .inl (0, 8), .inr (5, [71, 72, -1, -1]), .inl (0, 2881), .inl (0, 8), .inr (6, [74, 75, 76, 77, 78]), .inl (0, 8192), .inl (0, 8192), .inl (0, 8), .inl (0, 8), .inl (0, 8), .inr (7, [80, 81, 82, 83, -1, -1, 84, -1, 85, 86, 87, 88, 89, 90, -1, -1, -1, -1, -1, -1, -1, -1, 91]), .inl (0, 455), .inl (0, 2730), .inl (0, 910), .inl (0, 2), .inl (0, 80), .inl (0, 2881), .inl (0, 2881), .inl (0, 2881), .inl (0, 2881), .inl (0, 8), .inl (0, 23048), .inl (0, 6)]
theorem tw_r (i : Nat) {w : Cond} (h : tables_1[i]? = some w) : w ∈ lw_tbl := List.mem_append_right _ (List.mem_of_getElem? h)
theorem tw_l (i : Nat) {w : Cond} (h : (k2_sels lw_privs)[i]? = some w) : w ∈ lw_tbl := List.mem_append_left _ (List.mem_of_getElem? h)
abbrev b_X_init : ByteArray := prog_1_method_1_code
def y_X_init : MethodName := ⟨"GateRoads", "<init>", "()V"⟩
abbrev b_S_init : ByteArray := prog_7_method_1_code
def y_S_init : MethodName := ⟨"GateRoads$State", "<init>", "()V"⟩
abbrev b_P_init : ByteArray := prog_6_method_1_code
def y_P_init : MethodName := ⟨"GateRoads$Pad", "<init>", "()V"⟩
abbrev b_G_init : ByteArray := prog_4_method_1_code
def y_G_init : MethodName := ⟨"GateRoads$Gates", "<init>", "()V"⟩
abbrev b_O_init : ByteArray := prog_5_method_1_code
def y_O_init : MethodName := ⟨"GateRoads$Onward", "<init>", "()V"⟩
abbrev b_B_init : ByteArray := prog_2_method_1_code
def y_B_init : MethodName := ⟨"GateRoads$Backward", "<init>", "()V"⟩
abbrev b_F_init : ByteArray := prog_3_method_1_code
def y_F_init : MethodName := ⟨"GateRoads$Fewest", "<init>", "()V"⟩
abbrev b_X_room : ByteArray := prog_1_method_2_code
def y_X_room : MethodName := ⟨"GateRoads", "room", "(IIII)I"⟩
abbrev b_X_isPlace : ByteArray := prog_1_method_33_code
def y_X_isPlace : MethodName := ⟨"GateRoads", "isPlace", "(I)Z"⟩
abbrev b_X_within : ByteArray := prog_1_method_32_code
def y_X_within : MethodName := ⟨"GateRoads", "within", "(III)Z"⟩
abbrev b_X_remember : ByteArray := prog_1_method_37_code
def y_X_remember : MethodName := ⟨"GateRoads", "remember", "()V"⟩
abbrev b_S_copyFrom : ByteArray := prog_7_method_2_code
def y_S_copyFrom : MethodName := ⟨"GateRoads$State", "copyFrom", "(LGateRoads$State;)V"⟩
abbrev b_X_road : ByteArray := prog_1_method_3_code
def y_X_road : MethodName := ⟨"GateRoads", "road", "(III)I"⟩
abbrev b_S_addRoad : ByteArray := prog_7_method_10_code
def y_S_addRoad : MethodName := ⟨"GateRoads$State", "addRoad", "(III)I"⟩
abbrev b_S_dropSpans : ByteArray := prog_7_method_11_code
def y_S_dropSpans : MethodName := ⟨"GateRoads$State", "dropSpans", "(II)V"⟩
abbrev b_Ar_fill_1 : ByteArray := prog_13_method_104_code
def y_Ar_fill_1 : MethodName := ⟨"java/util/Arrays", "fill", "([IIII)V"⟩
abbrev b_Ar_rangeCheck : ByteArray := prog_13_method_30_code
def y_Ar_rangeCheck : MethodName := ⟨"java/util/Arrays", "rangeCheck", "(III)V"⟩
abbrev b_S_addSpan : ByteArray := prog_7_method_15_code
def y_S_addSpan : MethodName := ⟨"GateRoads$State", "addSpan", "(III)V"⟩
abbrev b_S_ofRoads : ByteArray := prog_7_method_7_code
def y_S_ofRoads : MethodName := ⟨"GateRoads$State", "ofRoads", "(II)I"⟩
abbrev b_S_spanFrom : ByteArray := prog_7_method_12_code
def y_S_spanFrom : MethodName := ⟨"GateRoads$State", "spanFrom", "(II)I"⟩
abbrev b_S_spanTo : ByteArray := prog_7_method_13_code
def y_S_spanTo : MethodName := ⟨"GateRoads$State", "spanTo", "(II)I"⟩
abbrev b_X_open : ByteArray := prog_1_method_4_code
def y_X_open : MethodName := ⟨"GateRoads", "open", "(IIII)I"⟩
abbrev b_S_hasRoad : ByteArray := prog_7_method_3_code
def y_S_hasRoad : MethodName := ⟨"GateRoads$State", "hasRoad", "(I)Z"⟩
abbrev b_X_isSpan : ByteArray := prog_1_method_34_code
def y_X_isSpan : MethodName := ⟨"GateRoads", "isSpan", "(III)Z"⟩
abbrev b_X_more : ByteArray := prog_1_method_5_code
def y_X_more : MethodName := ⟨"GateRoads", "more", "(III)I"⟩
abbrev b_S_meetsSpan : ByteArray := prog_7_method_14_code
def y_S_meetsSpan : MethodName := ⟨"GateRoads$State", "meetsSpan", "(III)Z"⟩
abbrev b_X_close : ByteArray := prog_1_method_6_code
def y_X_close : MethodName := ⟨"GateRoads", "close", "(III)I"⟩
abbrev b_S_addClosure : ByteArray := prog_7_method_16_code
def y_S_addClosure : MethodName := ⟨"GateRoads$State", "addClosure", "(III)I"⟩
abbrev b_X_lift : ByteArray := prog_1_method_7_code
def y_X_lift : MethodName := ⟨"GateRoads", "lift", "(I)I"⟩
abbrev b_S_hasClosure : ByteArray := prog_7_method_4_code
def y_S_hasClosure : MethodName := ⟨"GateRoads$State", "hasClosure", "(I)Z"⟩
abbrev b_S_dropClosure : ByteArray := prog_7_method_17_code
def y_S_dropClosure : MethodName := ⟨"GateRoads$State", "dropClosure", "(I)V"⟩
abbrev b_X_traveller : ByteArray := prog_1_method_8_code
def y_X_traveller : MethodName := ⟨"GateRoads", "traveller", "(II)I"⟩
abbrev b_S_addTraveller : ByteArray := prog_7_method_18_code
def y_S_addTraveller : MethodName := ⟨"GateRoads$State", "addTraveller", "(II)I"⟩
abbrev b_X_go : ByteArray := prog_1_method_9_code
def y_X_go : MethodName := ⟨"GateRoads", "go", "(II)I"⟩
abbrev b_S_hasTraveller : ByteArray := prog_7_method_5_code
def y_S_hasTraveller : MethodName := ⟨"GateRoads$State", "hasTraveller", "(I)Z"⟩
abbrev b_S_whyNoGoing : ByteArray := prog_7_method_27_code
def y_S_whyNoGoing : MethodName := ⟨"GateRoads$State", "whyNoGoing", "(II)I"⟩
abbrev b_S_ofTravellers : ByteArray := prog_7_method_9_code
def y_S_ofTravellers : MethodName := ⟨"GateRoads$State", "ofTravellers", "(II)I"⟩
abbrev b_S_whyNoEntry : ByteArray := prog_7_method_29_code
def y_S_whyNoEntry : MethodName := ⟨"GateRoads$State", "whyNoEntry", "(II)I"⟩
abbrev b_S_spanEnd : ByteArray := prog_7_method_30_code
def y_S_spanEnd : MethodName := ⟨"GateRoads$State", "spanEnd", "(II)I"⟩
abbrev b_S_closedAt : ByteArray := prog_7_method_31_code
def y_S_closedAt : MethodName := ⟨"GateRoads$State", "closedAt", "(II)Z"⟩
abbrev b_S_ofClosures : ByteArray := prog_7_method_8_code
def y_S_ofClosures : MethodName := ⟨"GateRoads$State", "ofClosures", "(II)I"⟩
abbrev b_X_refuse : ByteArray := prog_1_method_38_code
def y_X_refuse : MethodName := ⟨"GateRoads", "refuse", "(I)I"⟩
abbrev b_S_enter : ByteArray := prog_7_method_19_code
def y_S_enter : MethodName := ⟨"GateRoads$State", "enter", "(II)I"⟩
abbrev b_X_stay : ByteArray := prog_1_method_10_code
def y_X_stay : MethodName := ⟨"GateRoads", "stay", "(II)I"⟩
abbrev b_S_whyNoStaying : ByteArray := prog_7_method_28_code
def y_S_whyNoStaying : MethodName := ⟨"GateRoads$State", "whyNoStaying", "(II)I"⟩
abbrev b_S_openUntil : ByteArray := prog_7_method_24_code
def y_S_openUntil : MethodName := ⟨"GateRoads$State", "openUntil", "(II)I"⟩
abbrev b_S_ofRooms : ByteArray := prog_7_method_6_code
def y_S_ofRooms : MethodName := ⟨"GateRoads$State", "ofRooms", "(II)I"⟩
abbrev b_S_waitThere : ByteArray := prog_7_method_20_code
def y_S_waitThere : MethodName := ⟨"GateRoads$State", "waitThere", "(II)I"⟩
abbrev b_X_ofPlace : ByteArray := prog_1_method_11_code
def y_X_ofPlace : MethodName := ⟨"GateRoads", "ofPlace", "(II)I"⟩
abbrev b_S_roadsWith : ByteArray := prog_7_method_21_code
def y_S_roadsWith : MethodName := ⟨"GateRoads$State", "roadsWith", "(II)I"⟩
abbrev b_S_travellersAt : ByteArray := prog_7_method_22_code
def y_S_travellersAt : MethodName := ⟨"GateRoads$State", "travellersAt", "(I)I"⟩
abbrev b_X_ofRoad : ByteArray := prog_1_method_12_code
def y_X_ofRoad : MethodName := ⟨"GateRoads", "ofRoad", "(II)I"⟩
abbrev b_S_closuresOf : ByteArray := prog_7_method_23_code
def y_S_closuresOf : MethodName := ⟨"GateRoads$State", "closuresOf", "(I)I"⟩
abbrev b_X_ofClosure : ByteArray := prog_1_method_13_code
def y_X_ofClosure : MethodName := ⟨"GateRoads", "ofClosure", "(II)I"⟩
abbrev b_X_ofTraveller : ByteArray := prog_1_method_14_code
def y_X_ofTraveller : MethodName := ⟨"GateRoads", "ofTraveller", "(II)I"⟩
abbrev b_X_count : ByteArray := prog_1_method_15_code
def y_X_count : MethodName := ⟨"GateRoads", "count", "(I)I"⟩
abbrev b_X_whyShut : ByteArray := prog_1_method_16_code
def y_X_whyShut : MethodName := ⟨"GateRoads", "whyShut", "(II)I"⟩
abbrev b_X_earliest : ByteArray := prog_1_method_17_code
def y_X_earliest : MethodName := ⟨"GateRoads", "earliest", "(III)I"⟩
abbrev b_X_earliestTime : ByteArray := prog_1_method_39_code
def y_X_earliestTime : MethodName := ⟨"GateRoads", "earliestTime", "(III)I"⟩
abbrev b_S_waitEnd : ByteArray := prog_7_method_25_code
def y_S_waitEnd : MethodName := ⟨"GateRoads$State", "waitEnd", "(II)I"⟩
abbrev b_Ma_min : ByteArray := prog_11_method_69_code
def y_Ma_min : MethodName := ⟨"java/lang/Math", "min", "(II)I"⟩
abbrev b_X_firstComing : ByteArray := prog_1_method_40_code
def y_X_firstComing : MethodName := ⟨"GateRoads", "firstComing", "(IIIIII)I"⟩
abbrev b_G_prepare : ByteArray := prog_4_method_3_code
def y_G_prepare : MethodName := ⟨"GateRoads$Gates", "prepare", "(LGateRoads$State;)V"⟩
abbrev b_Ar_fill_0 : ByteArray := prog_13_method_103_code
def y_Ar_fill_0 : MethodName := ⟨"java/util/Arrays", "fill", "([II)V"⟩
abbrev b_G_letIn : ByteArray := prog_4_method_4_code
def y_G_letIn : MethodName := ⟨"GateRoads$Gates", "letIn", "(LGateRoads$State;II)V"⟩
abbrev b_G_shut : ByteArray := prog_4_method_5_code
def y_G_shut : MethodName := ⟨"GateRoads$Gates", "shut", "(LGateRoads$State;I)V"⟩
abbrev b_O_start : ByteArray := prog_5_method_2_code
def y_O_start : MethodName := ⟨"GateRoads$Onward", "start", "(II)V"⟩
abbrev b_O_comersAt : ByteArray := prog_5_method_3_code
def y_O_comersAt : MethodName := ⟨"GateRoads$Onward", "comersAt", "(I)I"⟩
abbrev b_X_has : ByteArray := prog_1_method_35_code
def y_X_has : MethodName := ⟨"GateRoads", "has", "(II)Z"⟩
abbrev b_G_at : ByteArray := prog_4_method_2_code
def y_G_at : MethodName := ⟨"GateRoads$Gates", "at", "(I)I"⟩
abbrev b_O_minute : ByteArray := prog_5_method_4_code
def y_O_minute : MethodName := ⟨"GateRoads$Onward", "minute", "(LGateRoads$State;II)I"⟩
abbrev b_Ma_max : ByteArray := prog_11_method_65_code
def y_Ma_max : MethodName := ⟨"java/lang/Math", "max", "(II)I"⟩
abbrev b_O_leave : ByteArray := prog_5_method_5_code
def y_O_leave : MethodName := ⟨"GateRoads$Onward", "leave", "(LGateRoads$State;III)V"⟩
abbrev b_X_latest : ByteArray := prog_1_method_18_code
def y_X_latest : MethodName := ⟨"GateRoads", "latest", "(III)I"⟩
abbrev b_B_start : ByteArray := prog_2_method_2_code
def y_B_start : MethodName := ⟨"GateRoads$Backward", "start", "(II)V"⟩
abbrev b_B_minute : ByteArray := prog_2_method_4_code
def y_B_minute : MethodName := ⟨"GateRoads$Backward", "minute", "(LGateRoads$State;II)V"⟩
abbrev b_B_leads : ByteArray := prog_2_method_3_code
def y_B_leads : MethodName := ⟨"GateRoads$Backward", "leads", "(II)Z"⟩
abbrev b_X_way : ByteArray := prog_1_method_19_code
def y_X_way : MethodName := ⟨"GateRoads", "way", "(IIII)I"⟩
abbrev b_X_fewestRoads : ByteArray := prog_1_method_41_code
def y_X_fewestRoads : MethodName := ⟨"GateRoads", "fewestRoads", "(IIII)I"⟩
abbrev b_F_start : ByteArray := prog_3_method_2_code
def y_F_start : MethodName := ⟨"GateRoads$Fewest", "start", "(II)V"⟩
abbrev b_F_push : ByteArray := prog_3_method_5_code
def y_F_push : MethodName := ⟨"GateRoads$Fewest", "push", "(III)V"⟩
abbrev b_F_cell : ByteArray := prog_3_method_3_code
def y_F_cell : MethodName := ⟨"GateRoads$Fewest", "cell", "(II)I"⟩
abbrev b_F_minute : ByteArray := prog_3_method_6_code
def y_F_minute : MethodName := ⟨"GateRoads$Fewest", "minute", "(LGateRoads$State;II)V"⟩
abbrev b_F_bestAt : ByteArray := prog_3_method_7_code
def y_F_bestAt : MethodName := ⟨"GateRoads$Fewest", "bestAt", "(II)I"⟩
abbrev b_F_leave : ByteArray := prog_3_method_8_code
def y_F_leave : MethodName := ⟨"GateRoads$Fewest", "leave", "(LGateRoads$State;II)V"⟩
abbrev b_F_comingTo : ByteArray := prog_3_method_4_code
def y_F_comingTo : MethodName := ⟨"GateRoads$Fewest", "comingTo", "(II)I"⟩
abbrev b_X_lookBack : ByteArray := prog_1_method_42_code
def y_X_lookBack : MethodName := ⟨"GateRoads", "lookBack", "(III)V"⟩
abbrev b_X_firstRoad : ByteArray := prog_1_method_44_code
def y_X_firstRoad : MethodName := ⟨"GateRoads", "firstRoad", "(II)I"⟩
abbrev b_X_firstEntry : ByteArray := prog_1_method_45_code
def y_X_firstEntry : MethodName := ⟨"GateRoads", "firstEntry", "(II)I"⟩
abbrev b_X_leadsOn : ByteArray := prog_1_method_43_code
def y_X_leadsOn : MethodName := ⟨"GateRoads", "leadsOn", "(II)Z"⟩
abbrev b_X_lastEntry : ByteArray := prog_1_method_46_code
def y_X_lastEntry : MethodName := ⟨"GateRoads", "lastEntry", "(II)I"⟩
abbrev b_X_reach : ByteArray := prog_1_method_20_code
def y_X_reach : MethodName := ⟨"GateRoads", "reach", "(III)I"⟩
abbrev b_X_needed : ByteArray := prog_1_method_21_code
def y_X_needed : MethodName := ⟨"GateRoads", "needed", "(III)I"⟩
abbrev b_X_roadsOfOneWay : ByteArray := prog_1_method_47_code
def y_X_roadsOfOneWay : MethodName := ⟨"GateRoads", "roadsOfOneWay", "(III)I"⟩
abbrev b_X_roadLeadingOn : ByteArray := prog_1_method_48_code
def y_X_roadLeadingOn : MethodName := ⟨"GateRoads", "roadLeadingOn", "(II)I"⟩
abbrev b_X_meet : ByteArray := prog_1_method_22_code
def y_X_meet : MethodName := ⟨"GateRoads", "meet", "(III)I"⟩
abbrev b_S_stayLeft : ByteArray := prog_7_method_26_code
def y_S_stayLeft : MethodName := ⟨"GateRoads$State", "stayLeft", "(I)I"⟩
abbrev b_X_lowest : ByteArray := prog_1_method_36_code
def y_X_lowest : MethodName := ⟨"GateRoads", "lowest", "(I)I"⟩
abbrev b_In_bitCount : ByteArray := prog_10_method_49_code
def y_In_bitCount : MethodName := ⟨"java/lang/Integer", "bitCount", "(I)I"⟩
abbrev b_X_arrives : ByteArray := prog_1_method_23_code
def y_X_arrives : MethodName := ⟨"GateRoads", "arrives", "(II)I"⟩
abbrev b_X_canStay : ByteArray := prog_1_method_24_code
def y_X_canStay : MethodName := ⟨"GateRoads", "canStay", "(I)I"⟩
abbrev b_X_put : ByteArray := prog_1_method_25_code
def y_X_put : MethodName := ⟨"GateRoads", "put", "(J)I"⟩
abbrev b_X_charactersIn : ByteArray := prog_1_method_49_code
def y_X_charactersIn : MethodName := ⟨"GateRoads", "charactersIn", "(J)I"⟩
abbrev b_P_append : ByteArray := prog_6_method_2_code
def y_P_append : MethodName := ⟨"GateRoads$Pad", "append", "(C)V"⟩
abbrev b_X_wipe : ByteArray := prog_1_method_26_code
def y_X_wipe : MethodName := ⟨"GateRoads", "wipe", "()I"⟩
abbrev b_X_fault : ByteArray := prog_1_method_27_code
def y_X_fault : MethodName := ⟨"GateRoads", "fault", "()I"⟩
abbrev b_P_firstWrong : ByteArray := prog_6_method_4_code
def y_P_firstWrong : MethodName := ⟨"GateRoads$Pad", "firstWrong", "()I"⟩
abbrev b_P_rewind : ByteArray := prog_6_method_3_code
def y_P_rewind : MethodName := ⟨"GateRoads$Pad", "rewind", "()V"⟩
abbrev b_P_readOrder : ByteArray := prog_6_method_12_code
def y_P_readOrder : MethodName := ⟨"GateRoads$Pad", "readOrder", "()V"⟩
abbrev b_P_readSpans : ByteArray := prog_6_method_13_code
def y_P_readSpans : MethodName := ⟨"GateRoads$Pad", "readSpans", "()V"⟩
abbrev b_P_readNumber : ByteArray := prog_6_method_10_code
def y_P_readNumber : MethodName := ⟨"GateRoads$Pad", "readNumber", "()I"⟩
abbrev b_P_readDigit : ByteArray := prog_6_method_9_code
def y_P_readDigit : MethodName := ⟨"GateRoads$Pad", "readDigit", "(I)I"⟩
abbrev b_P_digitStands : ByteArray := prog_6_method_8_code
def y_P_digitStands : MethodName := ⟨"GateRoads$Pad", "digitStands", "(I)Z"⟩
abbrev b_P_expect : ByteArray := prog_6_method_7_code
def y_P_expect : MethodName := ⟨"GateRoads$Pad", "expect", "(C)V"⟩
abbrev b_P_take : ByteArray := prog_6_method_6_code
def y_P_take : MethodName := ⟨"GateRoads$Pad", "take", "(C)Z"⟩
abbrev b_P_stands : ByteArray := prog_6_method_5_code
def y_P_stands : MethodName := ⟨"GateRoads$Pad", "stands", "(C)Z"⟩
abbrev b_P_readClock : ByteArray := prog_6_method_11_code
def y_P_readClock : MethodName := ⟨"GateRoads$Pad", "readClock", "()I"⟩
abbrev b_P_readClosure : ByteArray := prog_6_method_14_code
def y_P_readClosure : MethodName := ⟨"GateRoads$Pad", "readClosure", "()V"⟩
abbrev b_P_readDigitAndNumber : ByteArray := prog_6_method_15_code
def y_P_readDigitAndNumber : MethodName := ⟨"GateRoads$Pad", "readDigitAndNumber", "(C)V"⟩
abbrev b_X_carryOut : ByteArray := prog_1_method_28_code
def y_X_carryOut : MethodName := ⟨"GateRoads", "carryOut", "()I"⟩
abbrev b_X_carryOrder : ByteArray := prog_1_method_50_code
def y_X_carryOrder : MethodName := ⟨"GateRoads", "carryOrder", "()I"⟩
abbrev b_X_tellSpans : ByteArray := prog_1_method_51_code
def y_X_tellSpans : MethodName := ⟨"GateRoads", "tellSpans", "(I)I"⟩
abbrev b_P_spansStandApart : ByteArray := prog_6_method_18_code
def y_P_spansStandApart : MethodName := ⟨"GateRoads$Pad", "spansStandApart", "()Z"⟩
abbrev b_P_spanFrom : ByteArray := prog_6_method_16_code
def y_P_spanFrom : MethodName := ⟨"GateRoads$Pad", "spanFrom", "(I)I"⟩
abbrev b_P_spanTo : ByteArray := prog_6_method_17_code
def y_P_spanTo : MethodName := ⟨"GateRoads$Pad", "spanTo", "(I)I"⟩
abbrev b_X_undo : ByteArray := prog_1_method_29_code
def y_X_undo : MethodName := ⟨"GateRoads", "undo", "()I"⟩
abbrev b_X_save : ByteArray := prog_1_method_30_code
def y_X_save : MethodName := ⟨"GateRoads", "save", "(I)I"⟩
abbrev b_X_restore : ByteArray := prog_1_method_31_code
def y_X_restore : MethodName := ⟨"GateRoads", "restore", "(I)I"⟩
abbrev b_M_init : ByteArray := prog_9_method_1_code
def y_M_init : MethodName := ⟨"GateRoadsModel", "<init>", "()V"⟩
abbrev b_M_undo : ByteArray := prog_9_method_11_code
def y_M_undo : MethodName := ⟨"GateRoadsModel", "undo", "()I"⟩
abbrev b_M_save : ByteArray := prog_9_method_12_code
def y_M_save : MethodName := ⟨"GateRoadsModel", "save", "(I)I"⟩
abbrev b_M_isIn : ByteArray := prog_9_method_2_code
def y_M_isIn : MethodName := ⟨"GateRoadsModel", "isIn", "(III)Z"⟩
abbrev b_M_restore : ByteArray := prog_9_method_13_code
def y_M_restore : MethodName := ⟨"GateRoadsModel", "restore", "(I)I"⟩
abbrev b_M_records : ByteArray := prog_9_method_10_code
def y_M_records : MethodName := ⟨"GateRoadsModel", "records", "()V"⟩
abbrev b_M_room : ByteArray := prog_9_method_14_code
def y_M_room : MethodName := ⟨"GateRoadsModel", "room", "(IIII)I"⟩
abbrev b_M_isPlace : ByteArray := prog_9_method_4_code
def y_M_isPlace : MethodName := ⟨"GateRoadsModel", "isPlace", "(I)Z"⟩
abbrev b_M_road : ByteArray := prog_9_method_15_code
def y_M_road : MethodName := ⟨"GateRoadsModel", "road", "(III)I"⟩
abbrev b_M_open : ByteArray := prog_9_method_17_code
def y_M_open : MethodName := ⟨"GateRoadsModel", "open", "(IIII)I"⟩
abbrev b_M_isRoad : ByteArray := prog_9_method_5_code
def y_M_isRoad : MethodName := ⟨"GateRoadsModel", "isRoad", "(I)Z"⟩
abbrev b_M_isSpan : ByteArray := prog_9_method_16_code
def y_M_isSpan : MethodName := ⟨"GateRoadsModel", "isSpan", "(III)Z"⟩
abbrev b_M_more : ByteArray := prog_9_method_20_code
def y_M_more : MethodName := ⟨"GateRoadsModel", "more", "(III)I"⟩
abbrev b_M_isTaken : ByteArray := prog_9_method_18_code
def y_M_isTaken : MethodName := ⟨"GateRoadsModel", "isTaken", "(III)Z"⟩
abbrev b_M_ofR : ByteArray := prog_9_method_8_code
def y_M_ofR : MethodName := ⟨"GateRoadsModel", "ofR", "(II)I"⟩
abbrev b_M_adds : ByteArray := prog_9_method_19_code
def y_M_adds : MethodName := ⟨"GateRoadsModel", "adds", "(III)V"⟩
abbrev b_M_close : ByteArray := prog_9_method_23_code
def y_M_close : MethodName := ⟨"GateRoadsModel", "close", "(III)I"⟩
abbrev b_M_checksClosing : ByteArray := prog_9_method_21_code
def y_M_checksClosing : MethodName := ⟨"GateRoadsModel", "checksClosing", "(III)I"⟩
abbrev b_M_closes : ByteArray := prog_9_method_22_code
def y_M_closes : MethodName := ⟨"GateRoadsModel", "closes", "(III)I"⟩
abbrev b_M_lift : ByteArray := prog_9_method_24_code
def y_M_lift : MethodName := ⟨"GateRoadsModel", "lift", "(I)I"⟩
abbrev b_M_whyShut : ByteArray := prog_9_method_30_code
def y_M_whyShut : MethodName := ⟨"GateRoadsModel", "whyShut", "(II)I"⟩
abbrev b_M_isTime : ByteArray := prog_9_method_7_code
def y_M_isTime : MethodName := ⟨"GateRoadsModel", "isTime", "(I)Z"⟩
abbrev b_M_whyNot : ByteArray := prog_9_method_29_code
def y_M_whyNot : MethodName := ⟨"GateRoadsModel", "whyNot", "(II)I"⟩
abbrev b_M_spanEnd : ByteArray := prog_9_method_27_code
def y_M_spanEnd : MethodName := ⟨"GateRoadsModel", "spanEnd", "(II)I"⟩
abbrev b_M_isClosed : ByteArray := prog_9_method_28_code
def y_M_isClosed : MethodName := ⟨"GateRoadsModel", "isClosed", "(II)Z"⟩
abbrev b_M_traveller : ByteArray := prog_9_method_31_code
def y_M_traveller : MethodName := ⟨"GateRoadsModel", "traveller", "(II)I"⟩
abbrev b_M_go : ByteArray := prog_9_method_35_code
def y_M_go : MethodName := ⟨"GateRoadsModel", "go", "(II)I"⟩
abbrev b_M_checksGoing : ByteArray := prog_9_method_33_code
def y_M_checksGoing : MethodName := ⟨"GateRoadsModel", "checksGoing", "(II)I"⟩
abbrev b_M_isTraveller : ByteArray := prog_9_method_6_code
def y_M_isTraveller : MethodName := ⟨"GateRoadsModel", "isTraveller", "(I)Z"⟩
abbrev b_M_ofT : ByteArray := prog_9_method_9_code
def y_M_ofT : MethodName := ⟨"GateRoadsModel", "ofT", "(II)I"⟩
abbrev b_M_refuses : ByteArray := prog_9_method_32_code
def y_M_refuses : MethodName := ⟨"GateRoadsModel", "refuses", "(I)I"⟩
abbrev b_M_goes : ByteArray := prog_9_method_34_code
def y_M_goes : MethodName := ⟨"GateRoadsModel", "goes", "(II)I"⟩
abbrev b_M_stay : ByteArray := prog_9_method_38_code
def y_M_stay : MethodName := ⟨"GateRoadsModel", "stay", "(II)I"⟩
abbrev b_M_checksStaying : ByteArray := prog_9_method_36_code
def y_M_checksStaying : MethodName := ⟨"GateRoadsModel", "checksStaying", "(II)I"⟩
abbrev b_M_isRoomOpen : ByteArray := prog_9_method_26_code
def y_M_isRoomOpen : MethodName := ⟨"GateRoadsModel", "isRoomOpen", "(II)Z"⟩
abbrev b_M_limitOf : ByteArray := prog_9_method_25_code
def y_M_limitOf : MethodName := ⟨"GateRoadsModel", "limitOf", "(I)I"⟩
abbrev b_M_stays : ByteArray := prog_9_method_37_code
def y_M_stays : MethodName := ⟨"GateRoadsModel", "stays", "(II)I"⟩
abbrev b_M_ofPlace : ByteArray := prog_9_method_40_code
def y_M_ofPlace : MethodName := ⟨"GateRoadsModel", "ofPlace", "(II)I"⟩
abbrev b_M_roadsBy : ByteArray := prog_9_method_39_code
def y_M_roadsBy : MethodName := ⟨"GateRoadsModel", "roadsBy", "(II)I"⟩
abbrev b_M_ofRoad : ByteArray := prog_9_method_41_code
def y_M_ofRoad : MethodName := ⟨"GateRoadsModel", "ofRoad", "(II)I"⟩
abbrev b_M_ofClosure : ByteArray := prog_9_method_42_code
def y_M_ofClosure : MethodName := ⟨"GateRoadsModel", "ofClosure", "(II)I"⟩
abbrev b_M_ofTraveller : ByteArray := prog_9_method_43_code
def y_M_ofTraveller : MethodName := ⟨"GateRoadsModel", "ofTraveller", "(II)I"⟩
abbrev b_M_count : ByteArray := prog_9_method_44_code
def y_M_count : MethodName := ⟨"GateRoadsModel", "count", "(I)I"⟩
abbrev b_M_earliest : ByteArray := prog_9_method_48_code
def y_M_earliest : MethodName := ⟨"GateRoadsModel", "earliest", "(III)I"⟩
abbrev b_M_earliestOf : ByteArray := prog_9_method_47_code
def y_M_earliestOf : MethodName := ⟨"GateRoadsModel", "earliestOf", "(III)I"⟩
abbrev b_M_spreads : ByteArray := prog_9_method_45_code
def y_M_spreads : MethodName := ⟨"GateRoadsModel", "spreads", "(IIII)V"⟩
abbrev b_M_has : ByteArray := prog_9_method_3_code
def y_M_has : MethodName := ⟨"GateRoadsModel", "has", "(II)Z"⟩
abbrev b_M_firstAt : ByteArray := prog_9_method_46_code
def y_M_firstAt : MethodName := ⟨"GateRoadsModel", "firstAt", "(I)I"⟩
abbrev b_M_latest : ByteArray := prog_9_method_51_code
def y_M_latest : MethodName := ⟨"GateRoadsModel", "latest", "(III)I"⟩
abbrev b_M_goesBack : ByteArray := prog_9_method_50_code
def y_M_goesBack : MethodName := ⟨"GateRoadsModel", "goesBack", "(II)V"⟩
abbrev b_M_leadsOn : ByteArray := prog_9_method_49_code
def y_M_leadsOn : MethodName := ⟨"GateRoadsModel", "leadsOn", "(III)Z"⟩
abbrev b_M_way : ByteArray := prog_9_method_55_code
def y_M_way : MethodName := ⟨"GateRoadsModel", "way", "(IIII)I"⟩
abbrev b_M_fewestRoads : ByteArray := prog_9_method_53_code
def y_M_fewestRoads : MethodName := ⟨"GateRoadsModel", "fewestRoads", "(IIII)I"⟩
abbrev b_M_fewestAt : ByteArray := prog_9_method_52_code
def y_M_fewestAt : MethodName := ⟨"GateRoadsModel", "fewestAt", "(III)I"⟩
abbrev b_M_beginsAt : ByteArray := prog_9_method_54_code
def y_M_beginsAt : MethodName := ⟨"GateRoadsModel", "beginsAt", "(IIIZ)I"⟩
abbrev b_M_reach : ByteArray := prog_9_method_56_code
def y_M_reach : MethodName := ⟨"GateRoadsModel", "reach", "(III)I"⟩
abbrev b_M_needed : ByteArray := prog_9_method_57_code
def y_M_needed : MethodName := ⟨"GateRoadsModel", "needed", "(III)I"⟩
abbrev b_M_meet : ByteArray := prog_9_method_59_code
def y_M_meet : MethodName := ⟨"GateRoadsModel", "meet", "(III)I"⟩
abbrev b_M_spreadsFrom : ByteArray := prog_9_method_58_code
def y_M_spreadsFrom : MethodName := ⟨"GateRoadsModel", "spreadsFrom", "(I)V"⟩
abbrev b_M_arrives : ByteArray := prog_9_method_60_code
def y_M_arrives : MethodName := ⟨"GateRoadsModel", "arrives", "(II)I"⟩
abbrev b_M_canStay : ByteArray := prog_9_method_61_code
def y_M_canStay : MethodName := ⟨"GateRoadsModel", "canStay", "(I)I"⟩
abbrev b_M_put : ByteArray := prog_9_method_62_code
def y_M_put : MethodName := ⟨"GateRoadsModel", "put", "(J)I"⟩
abbrev b_M_wipe : ByteArray := prog_9_method_63_code
def y_M_wipe : MethodName := ⟨"GateRoadsModel", "wipe", "()I"⟩
abbrev b_M_fault : ByteArray := prog_9_method_73_code
def y_M_fault : MethodName := ⟨"GateRoadsModel", "fault", "()I"⟩
abbrev b_M_passesOrder : ByteArray := prog_9_method_72_code
def y_M_passesOrder : MethodName := ⟨"GateRoadsModel", "passesOrder", "()Z"⟩
abbrev b_M_passesSpans : ByteArray := prog_9_method_69_code
def y_M_passesSpans : MethodName := ⟨"GateRoadsModel", "passesSpans", "()Z"⟩
abbrev b_M_passesNumber : ByteArray := prog_9_method_66_code
def y_M_passesNumber : MethodName := ⟨"GateRoadsModel", "passesNumber", "()Z"⟩
abbrev b_M_passes : ByteArray := prog_9_method_64_code
def y_M_passes : MethodName := ⟨"GateRoadsModel", "passes", "(II)Z"⟩
abbrev b_M_isDigitHere : ByteArray := prog_9_method_65_code
def y_M_isDigitHere : MethodName := ⟨"GateRoadsModel", "isDigitHere", "()Z"⟩
abbrev b_M_passesHours : ByteArray := prog_9_method_68_code
def y_M_passesHours : MethodName := ⟨"GateRoadsModel", "passesHours", "()Z"⟩
abbrev b_M_passesClock : ByteArray := prog_9_method_67_code
def y_M_passesClock : MethodName := ⟨"GateRoadsModel", "passesClock", "()Z"⟩
abbrev b_M_passesClosing : ByteArray := prog_9_method_70_code
def y_M_passesClosing : MethodName := ⟨"GateRoadsModel", "passesClosing", "()Z"⟩
abbrev b_M_passesTravel : ByteArray := prog_9_method_71_code
def y_M_passesTravel : MethodName := ⟨"GateRoadsModel", "passesTravel", "(I)Z"⟩
abbrev b_M_carryOut : ByteArray := prog_9_method_76_code
def y_M_carryOut : MethodName := ⟨"GateRoadsModel", "carryOut", "()I"⟩
abbrev b_M_does : ByteArray := prog_9_method_75_code
def y_M_does : MethodName := ⟨"GateRoadsModel", "does", "()I"⟩
abbrev b_M_doesSpans : ByteArray := prog_9_method_74_code
def y_M_doesSpans : MethodName := ⟨"GateRoadsModel", "doesSpans", "()I"⟩
end
