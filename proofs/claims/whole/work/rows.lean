section
-- ===== PART A: goes FIRST, ahead of the names: the tables' words, and 'selects' of the private methods out of them =====
/-- a private method of a class that the tables say can be made, by its rows of tables_1 -/
def lw_okq (q : MethodName × Nat) : Prop := (q.1.cls ≠ "java/lang/invoke/MethodHandle" ∧ q.1.cls ≠ "java/lang/invoke/VarHandle") ∧ Cond.instantiable q.1.cls q.2 ∈ tables_1 ∧ Cond.privateMethod q.1 ∈ tables_1 ∧ Cond.instanceMethod q.1 ∈ tables_1
theorem lw_p0 : lw_okq (⟨"ManyHands", "pageAt", "(I)LManyHands$Page;"⟩, 10) := ⟨⟨by decide +kernel, by decide +kernel⟩, List.mem_of_getElem? (i := 19) (by decide +kernel), List.mem_of_getElem? (i := 217) (by decide +kernel), List.mem_of_getElem? (i := 218) (by decide +kernel)⟩
theorem lw_p1 : lw_okq (⟨"ManyHands", "handAt", "(I)LManyHands$Hand;"⟩, 10) := ⟨⟨by decide +kernel, by decide +kernel⟩, List.mem_of_getElem? (i := 19) (by decide +kernel), List.mem_of_getElem? (i := 234) (by decide +kernel), List.mem_of_getElem? (i := 235) (by decide +kernel)⟩
theorem lw_p2 : lw_okq (⟨"ManyHands", "refusalToChange", "(LManyHands$Hand;LManyHands$Page;I)I"⟩, 10) := ⟨⟨by decide +kernel, by decide +kernel⟩, List.mem_of_getElem? (i := 19) (by decide +kernel), List.mem_of_getElem? (i := 242) (by decide +kernel), List.mem_of_getElem? (i := 243) (by decide +kernel)⟩
theorem lw_p3 : lw_okq (⟨"ManyHands", "refusalToSee", "(LManyHands$Hand;LManyHands$Page;I)I"⟩, 10) := ⟨⟨by decide +kernel, by decide +kernel⟩, List.mem_of_getElem? (i := 19) (by decide +kernel), List.mem_of_getElem? (i := 255) (by decide +kernel), List.mem_of_getElem? (i := 256) (by decide +kernel)⟩
theorem lw_p4 : lw_okq (⟨"ManyHands", "found", "(I)I"⟩, 10) := ⟨⟨by decide +kernel, by decide +kernel⟩, List.mem_of_getElem? (i := 19) (by decide +kernel), List.mem_of_getElem? (i := 259) (by decide +kernel), List.mem_of_getElem? (i := 260) (by decide +kernel)⟩
theorem lw_p5 : lw_okq (⟨"ManyHands", "make", "(LManyHands$Hand;LManyHands$Page;IIJ)I"⟩, 10) := ⟨⟨by decide +kernel, by decide +kernel⟩, List.mem_of_getElem? (i := 19) (by decide +kernel), List.mem_of_getElem? (i := 263) (by decide +kernel), List.mem_of_getElem? (i := 264) (by decide +kernel)⟩
theorem lw_p6 : lw_okq (⟨"java/util/ArrayList", "add", "(Ljava/lang/Object;[Ljava/lang/Object;I)V"⟩, 3) := ⟨⟨by decide +kernel, by decide +kernel⟩, List.mem_of_getElem? (i := 31) (by decide +kernel), List.mem_of_getElem? (i := 337) (by decide +kernel), List.mem_of_getElem? (i := 338) (by decide +kernel)⟩
theorem lw_p7 : lw_okq (⟨"java/util/ArrayList", "grow", "()[Ljava/lang/Object;"⟩, 3) := ⟨⟨by decide +kernel, by decide +kernel⟩, List.mem_of_getElem? (i := 31) (by decide +kernel), List.mem_of_getElem? (i := 341) (by decide +kernel), List.mem_of_getElem? (i := 342) (by decide +kernel)⟩
theorem lw_p8 : lw_okq (⟨"java/util/ArrayList", "grow", "(I)[Ljava/lang/Object;"⟩, 3) := ⟨⟨by decide +kernel, by decide +kernel⟩, List.mem_of_getElem? (i := 31) (by decide +kernel), List.mem_of_getElem? (i := 345) (by decide +kernel), List.mem_of_getElem? (i := 346) (by decide +kernel)⟩
theorem lw_p9 : lw_okq (⟨"ManyHands$Page", "unknownTo", "(LManyHands$Reach;III)I"⟩, 4) := ⟨⟨by decide +kernel, by decide +kernel⟩, List.mem_of_getElem? (i := 186) (by decide +kernel), List.mem_of_getElem? (i := 422) (by decide +kernel), List.mem_of_getElem? (i := 423) (by decide +kernel)⟩
theorem lw_p10 : lw_okq (⟨"ManyHands$Page", "gatherKnown", "(LManyHands$Reach;II)V"⟩, 4) := ⟨⟨by decide +kernel, by decide +kernel⟩, List.mem_of_getElem? (i := 186) (by decide +kernel), List.mem_of_getElem? (i := 426) (by decide +kernel), List.mem_of_getElem? (i := 427) (by decide +kernel)⟩
theorem lw_p11 : lw_okq (⟨"ManyHands", "makeOfRights", "(LManyHands$Hand;LManyHands$Page;IIJ)I"⟩, 10) := ⟨⟨by decide +kernel, by decide +kernel⟩, List.mem_of_getElem? (i := 19) (by decide +kernel), List.mem_of_getElem? (i := 443) (by decide +kernel), List.mem_of_getElem? (i := 444) (by decide +kernel)⟩
theorem lw_p12 : lw_okq (⟨"ManyHands", "entryAt", "(I)LManyHands$Entry;"⟩, 10) := ⟨⟨by decide +kernel, by decide +kernel⟩, List.mem_of_getElem? (i := 19) (by decide +kernel), List.mem_of_getElem? (i := 467) (by decide +kernel), List.mem_of_getElem? (i := 468) (by decide +kernel)⟩
theorem lw_p13 : lw_okq (⟨"ManyHands", "allHave", "(LManyHands$Entry;)Z"⟩, 10) := ⟨⟨by decide +kernel, by decide +kernel⟩, List.mem_of_getElem? (i := 19) (by decide +kernel), List.mem_of_getElem? (i := 489) (by decide +kernel), List.mem_of_getElem? (i := 490) (by decide +kernel)⟩
theorem lw_p14 : lw_okq (⟨"java/util/ArrayList", "rangeCheckForAdd", "(I)V"⟩, 3) := ⟨⟨by decide +kernel, by decide +kernel⟩, List.mem_of_getElem? (i := 31) (by decide +kernel), List.mem_of_getElem? (i := 524) (by decide +kernel), List.mem_of_getElem? (i := 525) (by decide +kernel)⟩
theorem lw_p15 : lw_okq (⟨"java/util/ArrayList", "fastRemove", "([Ljava/lang/Object;I)V"⟩, 3) := ⟨⟨by decide +kernel, by decide +kernel⟩, List.mem_of_getElem? (i := 31) (by decide +kernel), List.mem_of_getElem? (i := 542) (by decide +kernel), List.mem_of_getElem? (i := 543) (by decide +kernel)⟩
def lw_privs_1 : List (MethodName × Nat) := [(⟨"ManyHands", "pageAt", "(I)LManyHands$Page;"⟩, 10), (⟨"ManyHands", "handAt", "(I)LManyHands$Hand;"⟩, 10), (⟨"ManyHands", "refusalToChange", "(LManyHands$Hand;LManyHands$Page;I)I"⟩, 10), (⟨"ManyHands", "refusalToSee", "(LManyHands$Hand;LManyHands$Page;I)I"⟩, 10), (⟨"ManyHands", "found", "(I)I"⟩, 10), (⟨"ManyHands", "make", "(LManyHands$Hand;LManyHands$Page;IIJ)I"⟩, 10), (⟨"java/util/ArrayList", "add", "(Ljava/lang/Object;[Ljava/lang/Object;I)V"⟩, 3), (⟨"java/util/ArrayList", "grow", "()[Ljava/lang/Object;"⟩, 3), (⟨"java/util/ArrayList", "grow", "(I)[Ljava/lang/Object;"⟩, 3), (⟨"ManyHands$Page", "unknownTo", "(LManyHands$Reach;III)I"⟩, 4), (⟨"ManyHands$Page", "gatherKnown", "(LManyHands$Reach;II)V"⟩, 4), (⟨"ManyHands", "makeOfRights", "(LManyHands$Hand;LManyHands$Page;IIJ)I"⟩, 10), (⟨"ManyHands", "entryAt", "(I)LManyHands$Entry;"⟩, 10), (⟨"ManyHands", "allHave", "(LManyHands$Entry;)Z"⟩, 10), (⟨"java/util/ArrayList", "rangeCheckForAdd", "(I)V"⟩, 3), (⟨"java/util/ArrayList", "fastRemove", "([Ljava/lang/Object;I)V"⟩, 3)]
theorem lw_r1 : ∀ q ∈ lw_privs_1, lw_okq q := List.forall_mem_cons.mpr ⟨lw_p0, List.forall_mem_cons.mpr ⟨lw_p1, List.forall_mem_cons.mpr ⟨lw_p2, List.forall_mem_cons.mpr ⟨lw_p3, List.forall_mem_cons.mpr ⟨lw_p4, List.forall_mem_cons.mpr ⟨lw_p5, List.forall_mem_cons.mpr ⟨lw_p6, List.forall_mem_cons.mpr ⟨lw_p7, List.forall_mem_cons.mpr ⟨lw_p8, List.forall_mem_cons.mpr ⟨lw_p9, List.forall_mem_cons.mpr ⟨lw_p10, List.forall_mem_cons.mpr ⟨lw_p11, List.forall_mem_cons.mpr ⟨lw_p12, List.forall_mem_cons.mpr ⟨lw_p13, List.forall_mem_cons.mpr ⟨lw_p14, List.forall_mem_cons.mpr ⟨lw_p15, fun _ h => absurd h List.not_mem_nil⟩⟩⟩⟩⟩⟩⟩⟩⟩⟩⟩⟩⟩⟩⟩⟩
theorem lw_p16 : lw_okq (⟨"ManyHands", "leastLacking", "(LManyHands$Hand;LManyHands$Hand;)LManyHands$Entry;"⟩, 10) := ⟨⟨by decide +kernel, by decide +kernel⟩, List.mem_of_getElem? (i := 19) (by decide +kernel), List.mem_of_getElem? (i := 551) (by decide +kernel), List.mem_of_getElem? (i := 552) (by decide +kernel)⟩
theorem lw_p17 : lw_okq (⟨"ManyHands", "tellAnd", "(JI)I"⟩, 10) := ⟨⟨by decide +kernel, by decide +kernel⟩, List.mem_of_getElem? (i := 19) (by decide +kernel), List.mem_of_getElem? (i := 601) (by decide +kernel), List.mem_of_getElem? (i := 602) (by decide +kernel)⟩
theorem lw_p18 : lw_okq (⟨"ManyHands$Page", "headAbove", "(LManyHands$Reach;LManyHands$Entry;)LManyHands$Entry;"⟩, 4) := ⟨⟨by decide +kernel, by decide +kernel⟩, List.mem_of_getElem? (i := 186) (by decide +kernel), List.mem_of_getElem? (i := 655) (by decide +kernel), List.mem_of_getElem? (i := 656) (by decide +kernel)⟩
theorem lw_p19 : lw_okq (⟨"ManyHands$Page", "tellLast", "(LManyHands$Reach;LManyHands$Telling;)V"⟩, 4) := ⟨⟨by decide +kernel, by decide +kernel⟩, List.mem_of_getElem? (i := 186) (by decide +kernel), List.mem_of_getElem? (i := 683) (by decide +kernel), List.mem_of_getElem? (i := 684) (by decide +kernel)⟩
theorem lw_p20 : lw_okq (⟨"ManyHands$Page", "tellTally", "(LManyHands$Reach;LManyHands$Telling;)V"⟩, 4) := ⟨⟨by decide +kernel, by decide +kernel⟩, List.mem_of_getElem? (i := 186) (by decide +kernel), List.mem_of_getElem? (i := 693) (by decide +kernel), List.mem_of_getElem? (i := 694) (by decide +kernel)⟩
theorem lw_p21 : lw_okq (⟨"ManyHands", "refusalToRead", "(LManyHands$LeafRow;I)I"⟩, 10) := ⟨⟨by decide +kernel, by decide +kernel⟩, List.mem_of_getElem? (i := 19) (by decide +kernel), List.mem_of_getElem? (i := 730) (by decide +kernel), List.mem_of_getElem? (i := 731) (by decide +kernel)⟩
theorem lw_p22 : lw_okq (⟨"ManyHandsModel", "isPage", "(I)Z"⟩, 28) := ⟨⟨by decide +kernel, by decide +kernel⟩, List.mem_of_getElem? (i := 791) (by decide +kernel), List.mem_of_getElem? (i := 905) (by decide +kernel), List.mem_of_getElem? (i := 906) (by decide +kernel)⟩
theorem lw_p23 : lw_okq (⟨"ManyHandsModel", "isOf", "(II)Z"⟩, 28) := ⟨⟨by decide +kernel, by decide +kernel⟩, List.mem_of_getElem? (i := 791) (by decide +kernel), List.mem_of_getElem? (i := 909) (by decide +kernel), List.mem_of_getElem? (i := 910) (by decide +kernel)⟩
theorem lw_p24 : lw_okq (⟨"ManyHandsModel", "isHand", "(I)Z"⟩, 28) := ⟨⟨by decide +kernel, by decide +kernel⟩, List.mem_of_getElem? (i := 791) (by decide +kernel), List.mem_of_getElem? (i := 917) (by decide +kernel), List.mem_of_getElem? (i := 918) (by decide +kernel)⟩
theorem lw_p25 : lw_okq (⟨"ManyHandsModel", "needMake", "(ZIII)I"⟩, 28) := ⟨⟨by decide +kernel, by decide +kernel⟩, List.mem_of_getElem? (i := 791) (by decide +kernel), List.mem_of_getElem? (i := 925) (by decide +kernel), List.mem_of_getElem? (i := 926) (by decide +kernel)⟩
theorem lw_p26 : lw_okq (⟨"ManyHandsModel", "ownOf", "(I)I"⟩, 28) := ⟨⟨by decide +kernel, by decide +kernel⟩, List.mem_of_getElem? (i := 791) (by decide +kernel), List.mem_of_getElem? (i := 929) (by decide +kernel), List.mem_of_getElem? (i := 930) (by decide +kernel)⟩
theorem lw_p27 : lw_okq (⟨"ManyHandsModel", "needSee", "(III)I"⟩, 28) := ⟨⟨by decide +kernel, by decide +kernel⟩, List.mem_of_getElem? (i := 791) (by decide +kernel), List.mem_of_getElem? (i := 936) (by decide +kernel), List.mem_of_getElem? (i := 937) (by decide +kernel)⟩
theorem lw_p28 : lw_okq (⟨"ManyHandsModel", "meets", "(I)I"⟩, 28) := ⟨⟨by decide +kernel, by decide +kernel⟩, List.mem_of_getElem? (i := 791) (by decide +kernel), List.mem_of_getElem? (i := 940) (by decide +kernel), List.mem_of_getElem? (i := 941) (by decide +kernel)⟩
theorem lw_p29 : lw_okq (⟨"ManyHandsModel", "make", "(IIIIIJ)I"⟩, 28) := ⟨⟨by decide +kernel, by decide +kernel⟩, List.mem_of_getElem? (i := 791) (by decide +kernel), List.mem_of_getElem? (i := 944) (by decide +kernel), List.mem_of_getElem? (i := 945) (by decide +kernel)⟩
theorem lw_p30 : lw_okq (⟨"ManyHandsModel", "greatestCount", "(I)I"⟩, 28) := ⟨⟨by decide +kernel, by decide +kernel⟩, List.mem_of_getElem? (i := 791) (by decide +kernel), List.mem_of_getElem? (i := 948) (by decide +kernel), List.mem_of_getElem? (i := 949) (by decide +kernel)⟩
theorem lw_p31 : lw_okq (⟨"ManyHandsModel", "countIn", "(III)I"⟩, 28) := ⟨⟨by decide +kernel, by decide +kernel⟩, List.mem_of_getElem? (i := 791) (by decide +kernel), List.mem_of_getElem? (i := 971) (by decide +kernel), List.mem_of_getElem? (i := 972) (by decide +kernel)⟩
def lw_privs_2 : List (MethodName × Nat) := [(⟨"ManyHands", "leastLacking", "(LManyHands$Hand;LManyHands$Hand;)LManyHands$Entry;"⟩, 10), (⟨"ManyHands", "tellAnd", "(JI)I"⟩, 10), (⟨"ManyHands$Page", "headAbove", "(LManyHands$Reach;LManyHands$Entry;)LManyHands$Entry;"⟩, 4), (⟨"ManyHands$Page", "tellLast", "(LManyHands$Reach;LManyHands$Telling;)V"⟩, 4), (⟨"ManyHands$Page", "tellTally", "(LManyHands$Reach;LManyHands$Telling;)V"⟩, 4), (⟨"ManyHands", "refusalToRead", "(LManyHands$LeafRow;I)I"⟩, 10), (⟨"ManyHandsModel", "isPage", "(I)Z"⟩, 28), (⟨"ManyHandsModel", "isOf", "(II)Z"⟩, 28), (⟨"ManyHandsModel", "isHand", "(I)Z"⟩, 28), (⟨"ManyHandsModel", "needMake", "(ZIII)I"⟩, 28), (⟨"ManyHandsModel", "ownOf", "(I)I"⟩, 28), (⟨"ManyHandsModel", "needSee", "(III)I"⟩, 28), (⟨"ManyHandsModel", "meets", "(I)I"⟩, 28), (⟨"ManyHandsModel", "make", "(IIIIIJ)I"⟩, 28), (⟨"ManyHandsModel", "greatestCount", "(I)I"⟩, 28), (⟨"ManyHandsModel", "countIn", "(III)I"⟩, 28)]
theorem lw_r2 : ∀ q ∈ lw_privs_2, lw_okq q := List.forall_mem_cons.mpr ⟨lw_p16, List.forall_mem_cons.mpr ⟨lw_p17, List.forall_mem_cons.mpr ⟨lw_p18, List.forall_mem_cons.mpr ⟨lw_p19, List.forall_mem_cons.mpr ⟨lw_p20, List.forall_mem_cons.mpr ⟨lw_p21, List.forall_mem_cons.mpr ⟨lw_p22, List.forall_mem_cons.mpr ⟨lw_p23, List.forall_mem_cons.mpr ⟨lw_p24, List.forall_mem_cons.mpr ⟨lw_p25, List.forall_mem_cons.mpr ⟨lw_p26, List.forall_mem_cons.mpr ⟨lw_p27, List.forall_mem_cons.mpr ⟨lw_p28, List.forall_mem_cons.mpr ⟨lw_p29, List.forall_mem_cons.mpr ⟨lw_p30, List.forall_mem_cons.mpr ⟨lw_p31, fun _ h => absurd h List.not_mem_nil⟩⟩⟩⟩⟩⟩⟩⟩⟩⟩⟩⟩⟩⟩⟩⟩
theorem lw_p32 : lw_okq (⟨"ManyHandsModel", "isOn", "(IIII)Z"⟩, 28) := ⟨⟨by decide +kernel, by decide +kernel⟩, List.mem_of_getElem? (i := 791) (by decide +kernel), List.mem_of_getElem? (i := 975) (by decide +kernel), List.mem_of_getElem? (i := 976) (by decide +kernel)⟩
theorem lw_p33 : lw_okq (⟨"ManyHandsModel", "rightsOf", "(III)J"⟩, 28) := ⟨⟨by decide +kernel, by decide +kernel⟩, List.mem_of_getElem? (i := 791) (by decide +kernel), List.mem_of_getElem? (i := 983) (by decide +kernel), List.mem_of_getElem? (i := 984) (by decide +kernel)⟩
theorem lw_p34 : lw_okq (⟨"ManyHandsModel", "isChange", "(I)Z"⟩, 28) := ⟨⟨by decide +kernel, by decide +kernel⟩, List.mem_of_getElem? (i := 791) (by decide +kernel), List.mem_of_getElem? (i := 999) (by decide +kernel), List.mem_of_getElem? (i := 1000) (by decide +kernel)⟩
theorem lw_p35 : lw_okq (⟨"ManyHandsModel", "size", "([JI)I"⟩, 28) := ⟨⟨by decide +kernel, by decide +kernel⟩, List.mem_of_getElem? (i := 791) (by decide +kernel), List.mem_of_getElem? (i := 1003) (by decide +kernel), List.mem_of_getElem? (i := 1004) (by decide +kernel)⟩
theorem lw_p36 : lw_okq (⟨"ManyHandsModel", "isReady", "(II)Z"⟩, 28) := ⟨⟨by decide +kernel, by decide +kernel⟩, List.mem_of_getElem? (i := 791) (by decide +kernel), List.mem_of_getElem? (i := 1015) (by decide +kernel), List.mem_of_getElem? (i := 1016) (by decide +kernel)⟩
theorem lw_p37 : lw_okq (⟨"ManyHandsModel", "takes", "(II)I"⟩, 28) := ⟨⟨by decide +kernel, by decide +kernel⟩, List.mem_of_getElem? (i := 791) (by decide +kernel), List.mem_of_getElem? (i := 1023) (by decide +kernel), List.mem_of_getElem? (i := 1024) (by decide +kernel)⟩
theorem lw_p38 : lw_okq (⟨"ManyHandsModel", "nextReady", "(I)I"⟩, 28) := ⟨⟨by decide +kernel, by decide +kernel⟩, List.mem_of_getElem? (i := 791) (by decide +kernel), List.mem_of_getElem? (i := 1030) (by decide +kernel), List.mem_of_getElem? (i := 1031) (by decide +kernel)⟩
theorem lw_p39 : lw_okq (⟨"ManyHandsModel", "isAfter", "(II)Z"⟩, 28) := ⟨⟨by decide +kernel, by decide +kernel⟩, List.mem_of_getElem? (i := 791) (by decide +kernel), List.mem_of_getElem? (i := 1034) (by decide +kernel), List.mem_of_getElem? (i := 1035) (by decide +kernel)⟩
theorem lw_p40 : lw_okq (⟨"ManyHandsModel", "need", "(ZIII)I"⟩, 28) := ⟨⟨by decide +kernel, by decide +kernel⟩, List.mem_of_getElem? (i := 791) (by decide +kernel), List.mem_of_getElem? (i := 1066) (by decide +kernel), List.mem_of_getElem? (i := 1067) (by decide +kernel)⟩
theorem lw_p41 : lw_okq (⟨"ManyHandsModel", "telling", "(II)I"⟩, 28) := ⟨⟨by decide +kernel, by decide +kernel⟩, List.mem_of_getElem? (i := 791) (by decide +kernel), List.mem_of_getElem? (i := 1070) (by decide +kernel), List.mem_of_getElem? (i := 1071) (by decide +kernel)⟩
theorem lw_p42 : lw_okq (⟨"ManyHandsModel", "sumOf", "(II)J"⟩, 28) := ⟨⟨by decide +kernel, by decide +kernel⟩, List.mem_of_getElem? (i := 791) (by decide +kernel), List.mem_of_getElem? (i := 1078) (by decide +kernel), List.mem_of_getElem? (i := 1079) (by decide +kernel)⟩
theorem lw_p43 : lw_okq (⟨"ManyHandsModel", "manyOn", "(II)I"⟩, 28) := ⟨⟨by decide +kernel, by decide +kernel⟩, List.mem_of_getElem? (i := 791) (by decide +kernel), List.mem_of_getElem? (i := 1082) (by decide +kernel), List.mem_of_getElem? (i := 1083) (by decide +kernel)⟩
theorem lw_p44 : lw_okq (⟨"ManyHandsModel", "layHeads", "(II)V"⟩, 28) := ⟨⟨by decide +kernel, by decide +kernel⟩, List.mem_of_getElem? (i := 791) (by decide +kernel), List.mem_of_getElem? (i := 1102) (by decide +kernel), List.mem_of_getElem? (i := 1103) (by decide +kernel)⟩
theorem lw_p45 : lw_okq (⟨"ManyHandsModel", "isKnown", "(IIII)Z"⟩, 28) := ⟨⟨by decide +kernel, by decide +kernel⟩, List.mem_of_getElem? (i := 791) (by decide +kernel), List.mem_of_getElem? (i := 1106) (by decide +kernel), List.mem_of_getElem? (i := 1107) (by decide +kernel)⟩
theorem lw_p46 : lw_okq (⟨"ManyHandsModel", "isUp", "(II)Z"⟩, 28) := ⟨⟨by decide +kernel, by decide +kernel⟩, List.mem_of_getElem? (i := 791) (by decide +kernel), List.mem_of_getElem? (i := 1122) (by decide +kernel), List.mem_of_getElem? (i := 1123) (by decide +kernel)⟩
theorem lw_p47 : lw_okq (⟨"ManyHandsModel", "manyDo", "(III)I"⟩, 28) := ⟨⟨by decide +kernel, by decide +kernel⟩, List.mem_of_getElem? (i := 791) (by decide +kernel), List.mem_of_getElem? (i := 1126) (by decide +kernel), List.mem_of_getElem? (i := 1127) (by decide +kernel)⟩
def lw_privs_3 : List (MethodName × Nat) := [(⟨"ManyHandsModel", "isOn", "(IIII)Z"⟩, 28), (⟨"ManyHandsModel", "rightsOf", "(III)J"⟩, 28), (⟨"ManyHandsModel", "isChange", "(I)Z"⟩, 28), (⟨"ManyHandsModel", "size", "([JI)I"⟩, 28), (⟨"ManyHandsModel", "isReady", "(II)Z"⟩, 28), (⟨"ManyHandsModel", "takes", "(II)I"⟩, 28), (⟨"ManyHandsModel", "nextReady", "(I)I"⟩, 28), (⟨"ManyHandsModel", "isAfter", "(II)Z"⟩, 28), (⟨"ManyHandsModel", "need", "(ZIII)I"⟩, 28), (⟨"ManyHandsModel", "telling", "(II)I"⟩, 28), (⟨"ManyHandsModel", "sumOf", "(II)J"⟩, 28), (⟨"ManyHandsModel", "manyOn", "(II)I"⟩, 28), (⟨"ManyHandsModel", "layHeads", "(II)V"⟩, 28), (⟨"ManyHandsModel", "isKnown", "(IIII)Z"⟩, 28), (⟨"ManyHandsModel", "isUp", "(II)Z"⟩, 28), (⟨"ManyHandsModel", "manyDo", "(III)I"⟩, 28)]
theorem lw_r3 : ∀ q ∈ lw_privs_3, lw_okq q := List.forall_mem_cons.mpr ⟨lw_p32, List.forall_mem_cons.mpr ⟨lw_p33, List.forall_mem_cons.mpr ⟨lw_p34, List.forall_mem_cons.mpr ⟨lw_p35, List.forall_mem_cons.mpr ⟨lw_p36, List.forall_mem_cons.mpr ⟨lw_p37, List.forall_mem_cons.mpr ⟨lw_p38, List.forall_mem_cons.mpr ⟨lw_p39, List.forall_mem_cons.mpr ⟨lw_p40, List.forall_mem_cons.mpr ⟨lw_p41, List.forall_mem_cons.mpr ⟨lw_p42, List.forall_mem_cons.mpr ⟨lw_p43, List.forall_mem_cons.mpr ⟨lw_p44, List.forall_mem_cons.mpr ⟨lw_p45, List.forall_mem_cons.mpr ⟨lw_p46, List.forall_mem_cons.mpr ⟨lw_p47, fun _ h => absurd h List.not_mem_nil⟩⟩⟩⟩⟩⟩⟩⟩⟩⟩⟩⟩⟩⟩⟩⟩
theorem lw_p48 : lw_okq (⟨"ManyHandsModel", "lay", "(II[J)I"⟩, 28) := ⟨⟨by decide +kernel, by decide +kernel⟩, List.mem_of_getElem? (i := 791) (by decide +kernel), List.mem_of_getElem? (i := 1134) (by decide +kernel), List.mem_of_getElem? (i := 1135) (by decide +kernel)⟩
theorem lw_p49 : lw_okq (⟨"ManyHandsModel", "lacksLeaf", "(II)I"⟩, 28) := ⟨⟨by decide +kernel, by decide +kernel⟩, List.mem_of_getElem? (i := 791) (by decide +kernel), List.mem_of_getElem? (i := 1150) (by decide +kernel), List.mem_of_getElem? (i := 1151) (by decide +kernel)⟩
def lw_privs_4 : List (MethodName × Nat) := [(⟨"ManyHandsModel", "lay", "(II[J)I"⟩, 28), (⟨"ManyHandsModel", "lacksLeaf", "(II)I"⟩, 28)]
theorem lw_r4 : ∀ q ∈ lw_privs_4, lw_okq q := List.forall_mem_cons.mpr ⟨lw_p48, List.forall_mem_cons.mpr ⟨lw_p49, fun _ h => absurd h List.not_mem_nil⟩⟩
def lw_privs : List (MethodName × Nat) := lw_privs_1 ++ (lw_privs_2 ++ (lw_privs_3 ++ (lw_privs_4)))
def lw_tbl : List Cond := k2_sels lw_privs ++ tables_1
theorem lw_privs_ok : ∀ q ∈ lw_privs, lw_okq q := by
  show ∀ q ∈ lw_privs_1 ++ (lw_privs_2 ++ (lw_privs_3 ++ (lw_privs_4))), lw_okq q
  exact List.forall_mem_append.mpr ⟨lw_r1, List.forall_mem_append.mpr ⟨lw_r2, List.forall_mem_append.mpr ⟨lw_r3, lw_r4⟩⟩⟩
end
section
def RX0 : String := "ManyHands$Entry"
def TX0 : u_T := fun k => match k with
  | 0 => ("ManyHands$Entry", "number", "I", true)
  | 1 => ("ManyHands$Entry", "maker", "I", true)
  | 2 => ("ManyHands$Entry", "page", "I", true)
  | 3 => ("ManyHands$Entry", "act", "I", true)
  | 4 => ("ManyHands$Entry", "x", "I", true)
  | 5 => ("ManyHands$Entry", "v", "J", true)
  | 6 => ("ManyHands$Entry", "stampCount", "I", true)
  | 7 => ("ManyHands$Entry", "order", "I", true)
  | 8 => ("ManyHands$Entry", "known", "LManyHands$Reach;", true)
  | _ => ("ManyHands$Entry", "earlier", "LManyHands$Entry;", true)
def tyX0 : Nat → FieldType := fun k => match k with
  | 0 => .int
  | 1 => .int
  | 2 => .int
  | 3 => .int
  | 4 => .int
  | 5 => .long
  | 6 => .int
  | 7 => .int
  | 8 => .object "ManyHands$Reach"
  | _ => .object "ManyHands$Entry"
theorem nmX0 : ∀ a, a < 10 → ∀ b, b < 10 → a ≠ b → (TX0 a).2.1 ≠ (TX0 b).2.1 := by decide +kernel
theorem tyX0_ok : ∀ k, k < 10 → parseFieldDescriptor (TX0 k).2.2.1 = some (tyX0 k) := by decide +kernel
abbrev cX0_init : ByteArray := prog_2_method_1_code
def yX0_init : MethodName := ⟨RX0, "<init>", "(ILManyHands$Hand;LManyHands$Page;IIJ)V"⟩
abbrev cX0_isBelow : ByteArray := prog_2_method_2_code
def yX0_isBelow : MethodName := ⟨RX0, "isBelow", "(LManyHands$Entry;)Z"⟩
abbrev cX0_rightsFor : ByteArray := prog_2_method_3_code
def yX0_rightsFor : MethodName := ⟨RX0, "rightsFor", "(I)J"⟩
abbrev cX0_addedToSum : ByteArray := prog_2_method_4_code
def yX0_addedToSum : MethodName := ⟨RX0, "addedToSum", "()J"⟩
def RX1 : String := "ManyHands$Hand"
def TX1 : u_T := fun k => match k with
  | 0 => ("ManyHands$Hand", "number", "I", true)
  | 1 => ("ManyHands$Hand", "reach", "LManyHands$Reach;", true)
  | 2 => ("ManyHands$Hand", "own", "Ljava/util/ArrayList;", true)
  | 3 => ("ManyHands$Hand", "waiting", "Ljava/util/ArrayList;", true)
  | 4 => ("ManyHands$Hand", "ignored", "[Z", true)
  | 5 => ("ManyHands$Hand", "row", "LManyHands$LeafRow;", true)
  | _ => ("ManyHands$Hand", "greatestCount", "I", false)
def tyX1 : Nat → FieldType := fun k => match k with
  | 0 => .int
  | 1 => .object "ManyHands$Reach"
  | 2 => .object "java/util/ArrayList"
  | 3 => .object "java/util/ArrayList"
  | 4 => .array .boolean
  | 5 => .object "ManyHands$LeafRow"
  | _ => .int
theorem nmX1 : ∀ a, a < 7 → ∀ b, b < 7 → a ≠ b → (TX1 a).2.1 ≠ (TX1 b).2.1 := by decide +kernel
theorem tyX1_ok : ∀ k, k < 7 → parseFieldDescriptor (TX1 k).2.2.1 = some (tyX1 k) := by decide +kernel
abbrev cX1_init : ByteArray := prog_3_method_1_code
def yX1_init : MethodName := ⟨RX1, "<init>", "(I)V"⟩
abbrev cX1_hasAllOwn : ByteArray := prog_3_method_2_code
def yX1_hasAllOwn : MethodName := ⟨RX1, "hasAllOwn", "()Z"⟩
abbrev cX1_ownAt : ByteArray := prog_3_method_3_code
def yX1_ownAt : MethodName := ⟨RX1, "ownAt", "(I)LManyHands$Entry;"⟩
abbrev cX1_include : ByteArray := prog_3_method_4_code
def yX1_include : MethodName := ⟨RX1, "include", "(LManyHands$Entry;)V"⟩
abbrev cX1_awaits : ByteArray := prog_3_method_5_code
def yX1_awaits : MethodName := ⟨RX1, "awaits", "(LManyHands$Entry;)Z"⟩
abbrev cX1_receive : ByteArray := prog_3_method_6_code
def yX1_receive : MethodName := ⟨RX1, "receive", "(LManyHands$Entry;)I"⟩
abbrev cX1_queue : ByteArray := prog_3_method_7_code
def yX1_queue : MethodName := ⟨RX1, "queue", "(LManyHands$Entry;)V"⟩
abbrev cX1_includeReady : ByteArray := prog_3_method_8_code
def yX1_includeReady : MethodName := ⟨RX1, "includeReady", "()I"⟩
abbrev cX1_forget : ByteArray := prog_3_method_9_code
def yX1_forget : MethodName := ⟨RX1, "forget", "()I"⟩
abbrev cX1_report : ByteArray := prog_3_method_10_code
def yX1_report : MethodName := ⟨RX1, "report", "(I)I"⟩
def RX2 : String := "ManyHands$LeafRow"
def TX2 : u_T := fun k => match k with
  | 0 => ("ManyHands$LeafRow", "numbers", "[J", true)
  | 1 => ("ManyHands$LeafRow", "marks", "[I", true)
  | _ => ("ManyHands$LeafRow", "size", "I", false)
def tyX2 : Nat → FieldType := fun k => match k with
  | 0 => .array .long
  | 1 => .array .int
  | _ => .int
theorem nmX2 : ∀ a, a < 3 → ∀ b, b < 3 → a ≠ b → (TX2 a).2.1 ≠ (TX2 b).2.1 := by decide +kernel
theorem tyX2_ok : ∀ k, k < 3 → parseFieldDescriptor (TX2 k).2.2.1 = some (tyX2 k) := by decide +kernel
abbrev cX2_init : ByteArray := prog_4_method_1_code
def yX2_init : MethodName := ⟨RX2, "<init>", "()V"⟩
abbrev cX2_renew : ByteArray := prog_4_method_2_code
def yX2_renew : MethodName := ⟨RX2, "renew", "(I)V"⟩
abbrev cX2_spans : ByteArray := prog_4_method_3_code
def yX2_spans : MethodName := ⟨RX2, "spans", "(II)Z"⟩
abbrev cX2_isThere : ByteArray := prog_4_method_4_code
def yX2_isThere : MethodName := ⟨RX2, "isThere", "(I)Z"⟩
abbrev cX2_store : ByteArray := prog_4_method_5_code
def yX2_store : MethodName := ⟨RX2, "store", "(IJ)V"⟩
abbrev cX2_drop : ByteArray := prog_4_method_6_code
def yX2_drop : MethodName := ⟨RX2, "drop", "(I)V"⟩
abbrev cX2_copyTo : ByteArray := prog_4_method_7_code
def yX2_copyTo : MethodName := ⟨RX2, "copyTo", "(ILManyHands$LeafRow;II)V"⟩
abbrev cX2_foldedOnto : ByteArray := prog_4_method_8_code
def yX2_foldedOnto : MethodName := ⟨RX2, "foldedOnto", "(J)J"⟩
def RX3 : String := "ManyHands$Page"
def TX3 : u_T := fun k => match k with
  | 0 => ("ManyHands$Page", "number", "I", true)
  | 1 => ("ManyHands$Page", "kind", "I", true)
  | 2 => ("ManyHands$Page", "latest", "[LManyHands$Entry;", true)
  | _ => ("ManyHands$Page", "known", "LManyHands$Reach;", true)
def tyX3 : Nat → FieldType := fun k => match k with
  | 0 => .int
  | 1 => .int
  | 2 => .array (.object "ManyHands$Entry")
  | _ => .object "ManyHands$Reach"
theorem nmX3 : ∀ a, a < 4 → ∀ b, b < 4 → a ≠ b → (TX3 a).2.1 ≠ (TX3 b).2.1 := by decide +kernel
theorem tyX3_ok : ∀ k, k < 4 → parseFieldDescriptor (TX3 k).2.2.1 = some (tyX3 k) := by decide +kernel
abbrev cX3_init : ByteArray := prog_5_method_1_code
def yX3_init : MethodName := ⟨RX3, "<init>", "(II)V"⟩
abbrev cX3_isUnder : ByteArray := prog_5_method_2_code
def yX3_isUnder : MethodName := ⟨RX3, "isUnder", "(I)Z"⟩
abbrev cX3_shelfOf : ByteArray := prog_5_method_3_code
def yX3_shelfOf : MethodName := ⟨RX3, "shelfOf", "(I)I"⟩
abbrev cX3_append : ByteArray := prog_5_method_4_code
def yX3_append : MethodName := ⟨RX3, "append", "(LManyHands$Entry;)V"⟩
abbrev cX3_foremost : ByteArray := prog_5_method_5_code
def yX3_foremost : MethodName := ⟨RX3, "foremost", "(LManyHands$Reach;)LManyHands$Entry;"⟩
abbrev cX3_size : ByteArray := prog_5_method_6_code
def yX3_size : MethodName := ⟨RX3, "size", "(LManyHands$Reach;)I"⟩
abbrev cX3_sizeOf : ByteArray := prog_5_method_7_code
def yX3_sizeOf : MethodName := ⟨RX3, "sizeOf", "(LManyHands$Reach;I)I"⟩
abbrev cX3_total : ByteArray := prog_5_method_8_code
def yX3_total : MethodName := ⟨RX3, "total", "(LManyHands$Reach;)J"⟩
abbrev cX3_rightsOf : ByteArray := prog_5_method_9_code
def yX3_rightsOf : MethodName := ⟨RX3, "rightsOf", "(LManyHands$Reach;I)J"⟩
abbrev cX3_gatherKnown : ByteArray := prog_5_method_10_code
def yX3_gatherKnown : MethodName := ⟨RX3, "gatherKnown", "(LManyHands$Reach;II)V"⟩
abbrev cX3_unknownTo : ByteArray := prog_5_method_11_code
def yX3_unknownTo : MethodName := ⟨RX3, "unknownTo", "(LManyHands$Reach;III)I"⟩
abbrev cX3_timesIn : ByteArray := prog_5_method_12_code
def yX3_timesIn : MethodName := ⟨RX3, "timesIn", "(LManyHands$Reach;I)I"⟩
abbrev cX3_thingAt : ByteArray := prog_5_method_13_code
def yX3_thingAt : MethodName := ⟨RX3, "thingAt", "(LManyHands$Reach;I)I"⟩
abbrev cX3_headCount : ByteArray := prog_5_method_14_code
def yX3_headCount : MethodName := ⟨RX3, "headCount", "(LManyHands$Reach;)I"⟩
abbrev cX3_headAt : ByteArray := prog_5_method_15_code
def yX3_headAt : MethodName := ⟨RX3, "headAt", "(LManyHands$Reach;I)LManyHands$Entry;"⟩
abbrev cX3_headAbove : ByteArray := prog_5_method_16_code
def yX3_headAbove : MethodName := ⟨RX3, "headAbove", "(LManyHands$Reach;LManyHands$Entry;)LManyHands$Entry;"⟩
abbrev cX3_isUp : ByteArray := prog_5_method_17_code
def yX3_isUp : MethodName := ⟨RX3, "isUp", "(LManyHands$Reach;)Z"⟩
abbrev cX3_tell : ByteArray := prog_5_method_18_code
def yX3_tell : MethodName := ⟨RX3, "tell", "(LManyHands$Reach;LManyHands$Telling;)V"⟩
abbrev cX3_tellLast : ByteArray := prog_5_method_19_code
def yX3_tellLast : MethodName := ⟨RX3, "tellLast", "(LManyHands$Reach;LManyHands$Telling;)V"⟩
abbrev cX3_tellTally : ByteArray := prog_5_method_20_code
def yX3_tellTally : MethodName := ⟨RX3, "tellTally", "(LManyHands$Reach;LManyHands$Telling;)V"⟩
def RX4 : String := "ManyHands$Reach"
def TX4 : u_T := fun k => match k with
  | _ => ("ManyHands$Reach", "upTo", "[I", true)
def tyX4 : Nat → FieldType := fun k => match k with
  | _ => .array .int
theorem nmX4 : ∀ a, a < 1 → ∀ b, b < 1 → a ≠ b → (TX4 a).2.1 ≠ (TX4 b).2.1 := by decide +kernel
theorem tyX4_ok : ∀ k, k < 1 → parseFieldDescriptor (TX4 k).2.2.1 = some (tyX4 k) := by decide +kernel
abbrev cX4_init : ByteArray := prog_6_method_1_code
def yX4_init : MethodName := ⟨RX4, "<init>", "()V"⟩
abbrev cX4_holds : ByteArray := prog_6_method_2_code
def yX4_holds : MethodName := ⟨RX4, "holds", "(LManyHands$Entry;)Z"⟩
abbrev cX4_covers : ByteArray := prog_6_method_3_code
def yX4_covers : MethodName := ⟨RX4, "covers", "(LManyHands$Reach;)Z"⟩
abbrev cX4_widen : ByteArray := prog_6_method_4_code
def yX4_widen : MethodName := ⟨RX4, "widen", "(LManyHands$Reach;)V"⟩
abbrev cX4_empty : ByteArray := prog_6_method_5_code
def yX4_empty : MethodName := ⟨RX4, "empty", "()V"⟩
abbrev cX4_size : ByteArray := prog_6_method_6_code
def yX4_size : MethodName := ⟨RX4, "size", "()I"⟩
def RX5 : String := "ManyHands$Telling"
def TX5 : u_T := fun k => match k with
  | 0 => ("ManyHands$Telling", "numbers", "[J", true)
  | _ => ("ManyHands$Telling", "size", "I", false)
def tyX5 : Nat → FieldType := fun k => match k with
  | 0 => .array .long
  | _ => .int
theorem nmX5 : ∀ a, a < 2 → ∀ b, b < 2 → a ≠ b → (TX5 a).2.1 ≠ (TX5 b).2.1 := by decide +kernel
theorem tyX5_ok : ∀ k, k < 2 → parseFieldDescriptor (TX5 k).2.2.1 = some (tyX5 k) := by decide +kernel
abbrev cX5_init : ByteArray := prog_7_method_1_code
def yX5_init : MethodName := ⟨RX5, "<init>", "()V"⟩
abbrev cX5_say : ByteArray := prog_7_method_2_code
def yX5_say : MethodName := ⟨RX5, "say", "(J)V"⟩
abbrev cX5_same : ByteArray := prog_7_method_3_code
def yX5_same : MethodName := ⟨RX5, "same", "(LManyHands$Telling;)Z"⟩
abbrev cX5_foldedOnto : ByteArray := prog_7_method_4_code
def yX5_foldedOnto : MethodName := ⟨RX5, "foldedOnto", "(J)J"⟩
def RX6 : String := "ManyHands"
def TX6 : u_T := fun k => match k with
  | 0 => ("ManyHands", "hands", "[LManyHands$Hand;", true)
  | 1 => ("ManyHands", "pages", "[LManyHands$Page;", true)
  | 2 => ("ManyHands", "entries", "Ljava/util/ArrayList;", true)
  | 3 => ("ManyHands", "timesFound", "[I", true)
  | 4 => ("ManyHands", "telling", "LManyHands$Telling;", true)
  | 5 => ("ManyHands", "otherTelling", "LManyHands$Telling;", true)
  | 6 => ("ManyHands", "handCount", "I", false)
  | 7 => ("ManyHands", "pageCount", "I", false)
  | 8 => ("ManyHands", "latestFinding", "I", false)
  | _ => ("ManyHands", "latestTold", "J", false)
def tyX6 : Nat → FieldType := fun k => match k with
  | 0 => .array (.object "ManyHands$Hand")
  | 1 => .array (.object "ManyHands$Page")
  | 2 => .object "java/util/ArrayList"
  | 3 => .array .int
  | 4 => .object "ManyHands$Telling"
  | 5 => .object "ManyHands$Telling"
  | 6 => .int
  | 7 => .int
  | 8 => .int
  | _ => .long
theorem nmX6 : ∀ a, a < 10 → ∀ b, b < 10 → a ≠ b → (TX6 a).2.1 ≠ (TX6 b).2.1 := by decide +kernel
theorem tyX6_ok : ∀ k, k < 10 → parseFieldDescriptor (TX6 k).2.2.1 = some (tyX6 k) := by decide +kernel
abbrev cX6_init : ByteArray := prog_1_method_1_code
def yX6_init : MethodName := ⟨RX6, "<init>", "()V"⟩
abbrev cX6_hand : ByteArray := prog_1_method_2_code
def yX6_hand : MethodName := ⟨RX6, "hand", "()I"⟩
abbrev cX6_page : ByteArray := prog_1_method_3_code
def yX6_page : MethodName := ⟨RX6, "page", "(I)I"⟩
abbrev cX6_is : ByteArray := prog_1_method_4_code
def yX6_is : MethodName := ⟨RX6, "is", "(II)I"⟩
abbrev cX6_keep : ByteArray := prog_1_method_5_code
def yX6_keep : MethodName := ⟨RX6, "keep", "(IIZ)I"⟩
abbrev cX6_write : ByteArray := prog_1_method_6_code
def yX6_write : MethodName := ⟨RX6, "write", "(IIJ)I"⟩
abbrev cX6_add : ByteArray := prog_1_method_7_code
def yX6_add : MethodName := ⟨RX6, "add", "(IIJ)I"⟩
abbrev cX6_put : ByteArray := prog_1_method_8_code
def yX6_put : MethodName := ⟨RX6, "put", "(III)I"⟩
abbrev cX6_take : ByteArray := prog_1_method_9_code
def yX6_take : MethodName := ⟨RX6, "take", "(III)I"⟩
abbrev cX6_give : ByteArray := prog_1_method_10_code
def yX6_give : MethodName := ⟨RX6, "give", "(IIIJ)I"⟩
abbrev cX6_spend : ByteArray := prog_1_method_11_code
def yX6_spend : MethodName := ⟨RX6, "spend", "(IIJ)I"⟩
abbrev cX6_raise : ByteArray := prog_1_method_12_code
def yX6_raise : MethodName := ⟨RX6, "raise", "(IIZ)I"⟩
abbrev cX6_change : ByteArray := prog_1_method_13_code
def yX6_change : MethodName := ⟨RX6, "change", "(II)I"⟩
abbrev cX6_knows : ByteArray := prog_1_method_14_code
def yX6_knows : MethodName := ⟨RX6, "knows", "(II)I"⟩
abbrev cX6_come : ByteArray := prog_1_method_15_code
def yX6_come : MethodName := ⟨RX6, "come", "(II)I"⟩
abbrev cX6_meet : ByteArray := prog_1_method_16_code
def yX6_meet : MethodName := ⟨RX6, "meet", "(III)I"⟩
abbrev cX6_lose : ByteArray := prog_1_method_17_code
def yX6_lose : MethodName := ⟨RX6, "lose", "(I)I"⟩
abbrev cX6_told : ByteArray := prog_1_method_18_code
def yX6_told : MethodName := ⟨RX6, "told", "(II)I"⟩
abbrev cX6_has : ByteArray := prog_1_method_19_code
def yX6_has : MethodName := ⟨RX6, "has", "(II)I"⟩
abbrev cX6_compare : ByteArray := prog_1_method_20_code
def yX6_compare : MethodName := ⟨RX6, "compare", "(II)I"⟩
abbrev cX6_value : ByteArray := prog_1_method_21_code
def yX6_value : MethodName := ⟨RX6, "value", "(II)I"⟩
abbrev cX6_sum : ByteArray := prog_1_method_22_code
def yX6_sum : MethodName := ⟨RX6, "sum", "(II)I"⟩
abbrev cX6_mean : ByteArray := prog_1_method_23_code
def yX6_mean : MethodName := ⟨RX6, "mean", "(II)I"⟩
abbrev cX6_often : ByteArray := prog_1_method_24_code
def yX6_often : MethodName := ⟨RX6, "often", "(III)I"⟩
abbrev cX6_inside : ByteArray := prog_1_method_25_code
def yX6_inside : MethodName := ⟨RX6, "inside", "(III)I"⟩
abbrev cX6_heads : ByteArray := prog_1_method_26_code
def yX6_heads : MethodName := ⟨RX6, "heads", "(II)I"⟩
abbrev cX6_head : ByteArray := prog_1_method_27_code
def yX6_head : MethodName := ⟨RX6, "head", "(III)I"⟩
abbrev cX6_rights : ByteArray := prog_1_method_28_code
def yX6_rights : MethodName := ⟨RX6, "rights", "(III)I"⟩
abbrev cX6_up : ByteArray := prog_1_method_29_code
def yX6_up : MethodName := ⟨RX6, "up", "(II)I"⟩
abbrev cX6_alike : ByteArray := prog_1_method_30_code
def yX6_alike : MethodName := ⟨RX6, "alike", "(III)I"⟩
abbrev cX6_leaves : ByteArray := prog_1_method_31_code
def yX6_leaves : MethodName := ⟨RX6, "leaves", "(II)I"⟩
abbrev cX6_save : ByteArray := prog_1_method_32_code
def yX6_save : MethodName := ⟨RX6, "save", "(II)I"⟩
abbrev cX6_tear : ByteArray := prog_1_method_33_code
def yX6_tear : MethodName := ⟨RX6, "tear", "(II)I"⟩
abbrev cX6_leaf : ByteArray := prog_1_method_34_code
def yX6_leaf : MethodName := ⟨RX6, "leaf", "(II)I"⟩
abbrev cX6_copy : ByteArray := prog_1_method_35_code
def yX6_copy : MethodName := ⟨RX6, "copy", "(IIIII)I"⟩
abbrev cX6_asked : ByteArray := prog_1_method_36_code
def yX6_asked : MethodName := ⟨RX6, "asked", "()J"⟩
abbrev cX6_count : ByteArray := prog_1_method_37_code
def yX6_count : MethodName := ⟨RX6, "count", "(I)I"⟩
abbrev cX6_finding : ByteArray := prog_1_method_38_code
def yX6_finding : MethodName := ⟨RX6, "finding", "()I"⟩
abbrev cX6_findings : ByteArray := prog_1_method_39_code
def yX6_findings : MethodName := ⟨RX6, "findings", "(I)I"⟩
abbrev cX6_digest : ByteArray := prog_1_method_40_code
def yX6_digest : MethodName := ⟨RX6, "digest", "(I)J"⟩
abbrev cX6_handAt : ByteArray := prog_1_method_41_code
def yX6_handAt : MethodName := ⟨RX6, "handAt", "(I)LManyHands$Hand;"⟩
abbrev cX6_pageAt : ByteArray := prog_1_method_42_code
def yX6_pageAt : MethodName := ⟨RX6, "pageAt", "(I)LManyHands$Page;"⟩
abbrev cX6_entryAt : ByteArray := prog_1_method_43_code
def yX6_entryAt : MethodName := ⟨RX6, "entryAt", "(I)LManyHands$Entry;"⟩
abbrev cX6_isKind : ByteArray := prog_1_method_44_code
def yX6_isKind : MethodName := ⟨RX6, "isKind", "(I)Z"⟩
abbrev cX6_isThing : ByteArray := prog_1_method_45_code
def yX6_isThing : MethodName := ⟨RX6, "isThing", "(I)Z"⟩
abbrev cX6_isAmount : ByteArray := prog_1_method_46_code
def yX6_isAmount : MethodName := ⟨RX6, "isAmount", "(J)Z"⟩
abbrev cX6_oneIf : ByteArray := prog_1_method_47_code
def yX6_oneIf : MethodName := ⟨RX6, "oneIf", "(Z)I"⟩
abbrev cX6_folded : ByteArray := prog_1_method_48_code
def yX6_folded : MethodName := ⟨RX6, "folded", "(JJ)J"⟩
abbrev cX6_found : ByteArray := prog_1_method_49_code
def yX6_found : MethodName := ⟨RX6, "found", "(I)I"⟩
abbrev cX6_tellAnd : ByteArray := prog_1_method_50_code
def yX6_tellAnd : MethodName := ⟨RX6, "tellAnd", "(JI)I"⟩
abbrev cX6_refusalToSee : ByteArray := prog_1_method_51_code
def yX6_refusalToSee : MethodName := ⟨RX6, "refusalToSee", "(LManyHands$Hand;LManyHands$Page;I)I"⟩
abbrev cX6_refusalToChange : ByteArray := prog_1_method_52_code
def yX6_refusalToChange : MethodName := ⟨RX6, "refusalToChange", "(LManyHands$Hand;LManyHands$Page;I)I"⟩
abbrev cX6_refusalToRead : ByteArray := prog_1_method_53_code
def yX6_refusalToRead : MethodName := ⟨RX6, "refusalToRead", "(LManyHands$LeafRow;I)I"⟩
abbrev cX6_makeOfRights : ByteArray := prog_1_method_54_code
def yX6_makeOfRights : MethodName := ⟨RX6, "makeOfRights", "(LManyHands$Hand;LManyHands$Page;IIJ)I"⟩
abbrev cX6_make : ByteArray := prog_1_method_55_code
def yX6_make : MethodName := ⟨RX6, "make", "(LManyHands$Hand;LManyHands$Page;IIJ)I"⟩
abbrev cX6_allHave : ByteArray := prog_1_method_56_code
def yX6_allHave : MethodName := ⟨RX6, "allHave", "(LManyHands$Entry;)Z"⟩
abbrev cX6_leastLacking : ByteArray := prog_1_method_57_code
def yX6_leastLacking : MethodName := ⟨RX6, "leastLacking", "(LManyHands$Hand;LManyHands$Hand;)LManyHands$Entry;"⟩
def RX7 : String := "ManyHandsModel"
def TX7 : u_T := fun k => match k with
  | 0 => ("ManyHandsModel", "latest", "I", false)
  | 1 => ("ManyHandsModel", "came", "[I", true)
  | 2 => ("ManyHandsModel", "hands", "I", false)
  | 3 => ("ManyHandsModel", "has", "[J", true)
  | 4 => ("ManyHandsModel", "waits", "[J", true)
  | 5 => ("ManyHandsModel", "skips", "[Z", true)
  | 6 => ("ManyHandsModel", "madeBy", "[I", true)
  | 7 => ("ManyHandsModel", "pages", "I", false)
  | 8 => ("ManyHandsModel", "kindOf", "[I", true)
  | 9 => ("ManyHandsModel", "changes", "I", false)
  | 10 => ("ManyHandsModel", "handOf", "[I", true)
  | 11 => ("ManyHandsModel", "pageOf", "[I", true)
  | 12 => ("ManyHandsModel", "countOf", "[I", true)
  | 13 => ("ManyHandsModel", "doing", "[I", true)
  | 14 => ("ManyHandsModel", "one", "[I", true)
  | 15 => ("ManyHandsModel", "two", "[I", true)
  | 16 => ("ManyHandsModel", "valueOf", "[J", true)
  | 17 => ("ManyHandsModel", "knows", "[J", true)
  | 18 => ("ManyHandsModel", "asked", "J", false)
  | 19 => ("ManyHandsModel", "heads", "[I", true)
  | 20 => ("ManyHandsModel", "headMany", "I", false)
  | 21 => ("ManyHandsModel", "row", "[J", true)
  | 22 => ("ManyHandsModel", "other", "[J", true)
  | 23 => ("ManyHandsModel", "leafMany", "[I", true)
  | 24 => ("ManyHandsModel", "isThere", "[Z", true)
  | 25 => ("ManyHandsModel", "leaf", "[J", true)
  | 26 => ("ManyHandsModel", "copied", "[J", true)
  | _ => ("ManyHandsModel", "copiedThere", "[Z", true)
def tyX7 : Nat → FieldType := fun k => match k with
  | 0 => .int
  | 1 => .array .int
  | 2 => .int
  | 3 => .array .long
  | 4 => .array .long
  | 5 => .array .boolean
  | 6 => .array .int
  | 7 => .int
  | 8 => .array .int
  | 9 => .int
  | 10 => .array .int
  | 11 => .array .int
  | 12 => .array .int
  | 13 => .array .int
  | 14 => .array .int
  | 15 => .array .int
  | 16 => .array .long
  | 17 => .array .long
  | 18 => .long
  | 19 => .array .int
  | 20 => .int
  | 21 => .array .long
  | 22 => .array .long
  | 23 => .array .int
  | 24 => .array .boolean
  | 25 => .array .long
  | 26 => .array .long
  | _ => .array .boolean
theorem nmX7 : ∀ a, a < 28 → ∀ b, b < 28 → a ≠ b → (TX7 a).2.1 ≠ (TX7 b).2.1 := by decide +kernel
theorem tyX7_ok : ∀ k, k < 28 → parseFieldDescriptor (TX7 k).2.2.1 = some (tyX7 k) := by decide +kernel
abbrev cX7_init : ByteArray := prog_9_method_1_code
def yX7_init : MethodName := ⟨RX7, "<init>", "()V"⟩
abbrev cX7_in : ByteArray := prog_9_method_2_code
def yX7_in : MethodName := ⟨RX7, "in", "(III)Z"⟩
abbrev cX7_meets : ByteArray := prog_9_method_3_code
def yX7_meets : MethodName := ⟨RX7, "meets", "(I)I"⟩
abbrev cX7_finding : ByteArray := prog_9_method_4_code
def yX7_finding : MethodName := ⟨RX7, "finding", "()I"⟩
abbrev cX7_findings : ByteArray := prog_9_method_5_code
def yX7_findings : MethodName := ⟨RX7, "findings", "(I)I"⟩
abbrev cX7_isIn : ByteArray := prog_9_method_6_code
def yX7_isIn : MethodName := ⟨RX7, "isIn", "([JII)Z"⟩
abbrev cX7_enter : ByteArray := prog_9_method_7_code
def yX7_enter : MethodName := ⟨RX7, "enter", "([JII)V"⟩
abbrev cX7_leave : ByteArray := prog_9_method_8_code
def yX7_leave : MethodName := ⟨RX7, "leave", "([JII)V"⟩
abbrev cX7_clear : ByteArray := prog_9_method_9_code
def yX7_clear : MethodName := ⟨RX7, "clear", "([JI)V"⟩
abbrev cX7_size : ByteArray := prog_9_method_10_code
def yX7_size : MethodName := ⟨RX7, "size", "([JI)I"⟩
abbrev cX7_isWithin : ByteArray := prog_9_method_11_code
def yX7_isWithin : MethodName := ⟨RX7, "isWithin", "([JI[JI)Z"⟩
abbrev cX7_isHand : ByteArray := prog_9_method_12_code
def yX7_isHand : MethodName := ⟨RX7, "isHand", "(I)Z"⟩
abbrev cX7_isPage : ByteArray := prog_9_method_13_code
def yX7_isPage : MethodName := ⟨RX7, "isPage", "(I)Z"⟩
abbrev cX7_isChange : ByteArray := prog_9_method_14_code
def yX7_isChange : MethodName := ⟨RX7, "isChange", "(I)Z"⟩
abbrev cX7_hand : ByteArray := prog_9_method_15_code
def yX7_hand : MethodName := ⟨RX7, "hand", "()I"⟩
abbrev cX7_page : ByteArray := prog_9_method_16_code
def yX7_page : MethodName := ⟨RX7, "page", "(I)I"⟩
abbrev cX7_isOf : ByteArray := prog_9_method_17_code
def yX7_isOf : MethodName := ⟨RX7, "isOf", "(II)Z"⟩
abbrev cX7_is : ByteArray := prog_9_method_18_code
def yX7_is : MethodName := ⟨RX7, "is", "(II)I"⟩
abbrev cX7_keep : ByteArray := prog_9_method_19_code
def yX7_keep : MethodName := ⟨RX7, "keep", "(IIZ)I"⟩
abbrev cX7_isAfter : ByteArray := prog_9_method_20_code
def yX7_isAfter : MethodName := ⟨RX7, "isAfter", "(II)Z"⟩
abbrev cX7_greatestCount : ByteArray := prog_9_method_21_code
def yX7_greatestCount : MethodName := ⟨RX7, "greatestCount", "(I)I"⟩
abbrev cX7_ownOf : ByteArray := prog_9_method_22_code
def yX7_ownOf : MethodName := ⟨RX7, "ownOf", "(I)I"⟩
abbrev cX7_needMake : ByteArray := prog_9_method_23_code
def yX7_needMake : MethodName := ⟨RX7, "needMake", "(ZIII)I"⟩
abbrev cX7_needSee : ByteArray := prog_9_method_24_code
def yX7_needSee : MethodName := ⟨RX7, "needSee", "(III)I"⟩
abbrev cX7_make : ByteArray := prog_9_method_25_code
def yX7_make : MethodName := ⟨RX7, "make", "(IIIIIJ)I"⟩
abbrev cX7_write : ByteArray := prog_9_method_26_code
def yX7_write : MethodName := ⟨RX7, "write", "(IIJ)I"⟩
abbrev cX7_add : ByteArray := prog_9_method_27_code
def yX7_add : MethodName := ⟨RX7, "add", "(IIJ)I"⟩
abbrev cX7_put : ByteArray := prog_9_method_28_code
def yX7_put : MethodName := ⟨RX7, "put", "(III)I"⟩
abbrev cX7_take : ByteArray := prog_9_method_29_code
def yX7_take : MethodName := ⟨RX7, "take", "(III)I"⟩
abbrev cX7_isShare : ByteArray := prog_9_method_30_code
def yX7_isShare : MethodName := ⟨RX7, "isShare", "(J)Z"⟩
abbrev cX7_give : ByteArray := prog_9_method_31_code
def yX7_give : MethodName := ⟨RX7, "give", "(IIIJ)I"⟩
abbrev cX7_spend : ByteArray := prog_9_method_32_code
def yX7_spend : MethodName := ⟨RX7, "spend", "(IIJ)I"⟩
abbrev cX7_raise : ByteArray := prog_9_method_33_code
def yX7_raise : MethodName := ⟨RX7, "raise", "(IIZ)I"⟩
abbrev cX7_change : ByteArray := prog_9_method_34_code
def yX7_change : MethodName := ⟨RX7, "change", "(II)I"⟩
abbrev cX7_knows : ByteArray := prog_9_method_35_code
def yX7_knows : MethodName := ⟨RX7, "knows", "(II)I"⟩
abbrev cX7_isReady : ByteArray := prog_9_method_36_code
def yX7_isReady : MethodName := ⟨RX7, "isReady", "(II)Z"⟩
abbrev cX7_nextReady : ByteArray := prog_9_method_37_code
def yX7_nextReady : MethodName := ⟨RX7, "nextReady", "(I)I"⟩
abbrev cX7_takes : ByteArray := prog_9_method_38_code
def yX7_takes : MethodName := ⟨RX7, "takes", "(II)I"⟩
abbrev cX7_come : ByteArray := prog_9_method_39_code
def yX7_come : MethodName := ⟨RX7, "come", "(II)I"⟩
abbrev cX7_meet : ByteArray := prog_9_method_40_code
def yX7_meet : MethodName := ⟨RX7, "meet", "(III)I"⟩
abbrev cX7_lose : ByteArray := prog_9_method_41_code
def yX7_lose : MethodName := ⟨RX7, "lose", "(I)I"⟩
abbrev cX7_told : ByteArray := prog_9_method_42_code
def yX7_told : MethodName := ⟨RX7, "told", "(II)I"⟩
abbrev cX7_has : ByteArray := prog_9_method_43_code
def yX7_has : MethodName := ⟨RX7, "has", "(II)I"⟩
abbrev cX7_compare : ByteArray := prog_9_method_44_code
def yX7_compare : MethodName := ⟨RX7, "compare", "(II)I"⟩
abbrev cX7_isOn : ByteArray := prog_9_method_45_code
def yX7_isOn : MethodName := ⟨RX7, "isOn", "(IIII)Z"⟩
abbrev cX7_telling : ByteArray := prog_9_method_46_code
def yX7_telling : MethodName := ⟨RX7, "telling", "(II)I"⟩
abbrev cX7_manyOn : ByteArray := prog_9_method_47_code
def yX7_manyOn : MethodName := ⟨RX7, "manyOn", "(II)I"⟩
abbrev cX7_rightsOf : ByteArray := prog_9_method_48_code
def yX7_rightsOf : MethodName := ⟨RX7, "rightsOf", "(III)J"⟩
abbrev cX7_sumOf : ByteArray := prog_9_method_49_code
def yX7_sumOf : MethodName := ⟨RX7, "sumOf", "(II)J"⟩
abbrev cX7_isKnown : ByteArray := prog_9_method_50_code
def yX7_isKnown : MethodName := ⟨RX7, "isKnown", "(IIII)Z"⟩
abbrev cX7_layHeads : ByteArray := prog_9_method_51_code
def yX7_layHeads : MethodName := ⟨RX7, "layHeads", "(II)V"⟩
abbrev cX7_manyDo : ByteArray := prog_9_method_52_code
def yX7_manyDo : MethodName := ⟨RX7, "manyDo", "(III)I"⟩
abbrev cX7_isUp : ByteArray := prog_9_method_53_code
def yX7_isUp : MethodName := ⟨RX7, "isUp", "(II)Z"⟩
abbrev cX7_countIn : ByteArray := prog_9_method_54_code
def yX7_countIn : MethodName := ⟨RX7, "countIn", "(III)I"⟩
abbrev cX7_need : ByteArray := prog_9_method_55_code
def yX7_need : MethodName := ⟨RX7, "need", "(ZIII)I"⟩
abbrev cX7_value : ByteArray := prog_9_method_56_code
def yX7_value : MethodName := ⟨RX7, "value", "(II)I"⟩
abbrev cX7_sum : ByteArray := prog_9_method_57_code
def yX7_sum : MethodName := ⟨RX7, "sum", "(II)I"⟩
abbrev cX7_mean : ByteArray := prog_9_method_58_code
def yX7_mean : MethodName := ⟨RX7, "mean", "(II)I"⟩
abbrev cX7_often : ByteArray := prog_9_method_59_code
def yX7_often : MethodName := ⟨RX7, "often", "(III)I"⟩
abbrev cX7_inside : ByteArray := prog_9_method_60_code
def yX7_inside : MethodName := ⟨RX7, "inside", "(III)I"⟩
abbrev cX7_heads : ByteArray := prog_9_method_61_code
def yX7_heads : MethodName := ⟨RX7, "heads", "(II)I"⟩
abbrev cX7_head : ByteArray := prog_9_method_62_code
def yX7_head : MethodName := ⟨RX7, "head", "(III)I"⟩
abbrev cX7_rights : ByteArray := prog_9_method_63_code
def yX7_rights : MethodName := ⟨RX7, "rights", "(III)I"⟩
abbrev cX7_up : ByteArray := prog_9_method_64_code
def yX7_up : MethodName := ⟨RX7, "up", "(II)I"⟩
abbrev cX7_lay : ByteArray := prog_9_method_65_code
def yX7_lay : MethodName := ⟨RX7, "lay", "(II[J)I"⟩
abbrev cX7_alike : ByteArray := prog_9_method_66_code
def yX7_alike : MethodName := ⟨RX7, "alike", "(III)I"⟩
abbrev cX7_leaves : ByteArray := prog_9_method_67_code
def yX7_leaves : MethodName := ⟨RX7, "leaves", "(II)I"⟩
abbrev cX7_save : ByteArray := prog_9_method_68_code
def yX7_save : MethodName := ⟨RX7, "save", "(II)I"⟩
abbrev cX7_lacksLeaf : ByteArray := prog_9_method_69_code
def yX7_lacksLeaf : MethodName := ⟨RX7, "lacksLeaf", "(II)I"⟩
abbrev cX7_tear : ByteArray := prog_9_method_70_code
def yX7_tear : MethodName := ⟨RX7, "tear", "(II)I"⟩
abbrev cX7_leaf : ByteArray := prog_9_method_71_code
def yX7_leaf : MethodName := ⟨RX7, "leaf", "(II)I"⟩
abbrev cX7_copy : ByteArray := prog_9_method_72_code
def yX7_copy : MethodName := ⟨RX7, "copy", "(IIIII)I"⟩
abbrev cX7_asked : ByteArray := prog_9_method_73_code
def yX7_asked : MethodName := ⟨RX7, "asked", "()J"⟩
abbrev cX7_count : ByteArray := prog_9_method_74_code
def yX7_count : MethodName := ⟨RX7, "count", "(I)I"⟩
abbrev cX7_digest : ByteArray := prog_9_method_75_code
def yX7_digest : MethodName := ⟨RX7, "digest", "(I)J"⟩
def RJx145de : String := "java/io/Serializable"
def TJx145de : u_T := fun k => match k with
  | _ => ("", "", "", false)
def tyJx145de : Nat → FieldType := fun k => match k with
  | _ => .int
theorem nmJx145de : ∀ a, a < 0 → ∀ b, b < 0 → a ≠ b → (TJx145de a).2.1 ≠ (TJx145de b).2.1 := by decide +kernel
theorem tyJx145de_ok : ∀ k, k < 0 → parseFieldDescriptor (TJx145de k).2.2.1 = some (tyJx145de k) := by decide +kernel
def RJx8e188 : String := "java/lang/Cloneable"
def TJx8e188 : u_T := fun k => match k with
  | _ => ("", "", "", false)
def tyJx8e188 : Nat → FieldType := fun k => match k with
  | _ => .int
theorem nmJx8e188 : ∀ a, a < 0 → ∀ b, b < 0 → a ≠ b → (TJx8e188 a).2.1 ≠ (TJx8e188 b).2.1 := by decide +kernel
theorem tyJx8e188_ok : ∀ k, k < 0 → parseFieldDescriptor (TJx8e188 k).2.2.1 = some (tyJx8e188 k) := by decide +kernel
def RJxab1ab : String := "java/lang/Iterable"
def TJxab1ab : u_T := fun k => match k with
  | _ => ("", "", "", false)
def tyJxab1ab : Nat → FieldType := fun k => match k with
  | _ => .int
theorem nmJxab1ab : ∀ a, a < 0 → ∀ b, b < 0 → a ≠ b → (TJxab1ab a).2.1 ≠ (TJxab1ab b).2.1 := by decide +kernel
theorem tyJxab1ab_ok : ∀ k, k < 0 → parseFieldDescriptor (TJxab1ab k).2.2.1 = some (tyJxab1ab k) := by decide +kernel
def RJ9 : String := "java/lang/Math"
def TJ9 : u_T := fun k => match k with
  | _ => ("", "", "", false)
def tyJ9 : Nat → FieldType := fun k => match k with
  | _ => .int
theorem nmJ9 : ∀ a, a < 0 → ∀ b, b < 0 → a ≠ b → (TJ9 a).2.1 ≠ (TJ9 b).2.1 := by decide +kernel
theorem tyJ9_ok : ∀ k, k < 0 → parseFieldDescriptor (TJ9 k).2.2.1 = some (tyJ9 k) := by decide +kernel
abbrev cJ9_max_7cf53 : ByteArray := prog_13_method_65_code
def yJ9_max_7cf53 : MethodName := ⟨RJ9, "max", "(II)I"⟩
abbrev cJ9_min_7cf53 : ByteArray := prog_13_method_69_code
def yJ9_min_7cf53 : MethodName := ⟨RJ9, "min", "(II)I"⟩
def RJ10 : String := "java/lang/System"
def TJ10 : u_T := fun k => match k with
  | _ => ("", "", "", false)
def tyJ10 : Nat → FieldType := fun k => match k with
  | _ => .int
theorem nmJ10 : ∀ a, a < 0 → ∀ b, b < 0 → a ≠ b → (TJ10 a).2.1 ≠ (TJ10 b).2.1 := by decide +kernel
theorem tyJ10_ok : ∀ k, k < 0 → parseFieldDescriptor (TJ10 k).2.2.1 = some (tyJ10 k) := by decide +kernel
def RJxa1e45 : String := "java/util/AbstractCollection"
def TJxa1e45 : u_T := fun k => match k with
  | _ => ("", "", "", false)
def tyJxa1e45 : Nat → FieldType := fun k => match k with
  | _ => .int
theorem nmJxa1e45 : ∀ a, a < 0 → ∀ b, b < 0 → a ≠ b → (TJxa1e45 a).2.1 ≠ (TJxa1e45 b).2.1 := by decide +kernel
theorem tyJxa1e45_ok : ∀ k, k < 0 → parseFieldDescriptor (TJxa1e45 k).2.2.1 = some (tyJxa1e45 k) := by decide +kernel
abbrev cJxa1e45_init_da8c8 : ByteArray := prog_15_method_1_code
def yJxa1e45_init_da8c8 : MethodName := ⟨RJxa1e45, "<init>", "()V"⟩
def RJxc12de : String := "java/util/AbstractList"
def TJxc12de : u_T := fun k => match k with
  | _ => ("", "", "", false)
def tyJxc12de : Nat → FieldType := fun k => match k with
  | _ => .int
theorem nmJxc12de : ∀ a, a < 0 → ∀ b, b < 0 → a ≠ b → (TJxc12de a).2.1 ≠ (TJxc12de b).2.1 := by decide +kernel
theorem tyJxc12de_ok : ∀ k, k < 0 → parseFieldDescriptor (TJxc12de k).2.2.1 = some (tyJxc12de k) := by decide +kernel
abbrev cJxc12de_init_da8c8 : ByteArray := prog_16_method_1_code
def yJxc12de_init_da8c8 : MethodName := ⟨RJxc12de, "<init>", "()V"⟩
def RJx4a65c : String := "java/util/ArrayList"
def TJx4a65c : u_T := fun k => match k with
  | 0 => ("java/util/AbstractList", "modCount", "I", false)
  | 1 => ("java/util/ArrayList", "elementData", "[Ljava/lang/Object;", false)
  | _ => ("java/util/ArrayList", "size", "I", false)
def tyJx4a65c : Nat → FieldType := fun k => match k with
  | 0 => .int
  | 1 => .array (.object "java/lang/Object")
  | _ => .int
theorem nmJx4a65c : ∀ a, a < 3 → ∀ b, b < 3 → a ≠ b → (TJx4a65c a).2.1 ≠ (TJx4a65c b).2.1 := by decide +kernel
theorem tyJx4a65c_ok : ∀ k, k < 3 → parseFieldDescriptor (TJx4a65c k).2.2.1 = some (tyJx4a65c k) := by decide +kernel
abbrev cJx4a65c_init_da8c8 : ByteArray := prog_17_method_2_code
def yJx4a65c_init_da8c8 : MethodName := ⟨RJx4a65c, "<init>", "()V"⟩
abbrev cJx4a65c_grow_92f84 : ByteArray := prog_17_method_6_code
def yJx4a65c_grow_92f84 : MethodName := ⟨RJx4a65c, "grow", "(I)[Ljava/lang/Object;"⟩
abbrev cJx4a65c_grow_d5877 : ByteArray := prog_17_method_7_code
def yJx4a65c_grow_d5877 : MethodName := ⟨RJx4a65c, "grow", "()[Ljava/lang/Object;"⟩
abbrev cJx4a65c_size_8abf5 : ByteArray := prog_17_method_8_code
def yJx4a65c_size_8abf5 : MethodName := ⟨RJx4a65c, "size", "()I"⟩
abbrev cJx4a65c_isEmpty_aae02 : ByteArray := prog_17_method_9_code
def yJx4a65c_isEmpty_aae02 : MethodName := ⟨RJx4a65c, "isEmpty", "()Z"⟩
abbrev cJx4a65c_elementData_915e3 : ByteArray := prog_17_method_18_code
def yJx4a65c_elementData_915e3 : MethodName := ⟨RJx4a65c, "elementData", "(I)Ljava/lang/Object;"⟩
abbrev cJx4a65c_get_915e3 : ByteArray := prog_17_method_20_code
def yJx4a65c_get_915e3 : MethodName := ⟨RJx4a65c, "get", "(I)Ljava/lang/Object;"⟩
abbrev cJx4a65c_add_72be8 : ByteArray := prog_17_method_24_code
def yJx4a65c_add_72be8 : MethodName := ⟨RJx4a65c, "add", "(Ljava/lang/Object;[Ljava/lang/Object;I)V"⟩
abbrev cJx4a65c_add_9ea2d : ByteArray := prog_17_method_25_code
def yJx4a65c_add_9ea2d : MethodName := ⟨RJx4a65c, "add", "(Ljava/lang/Object;)Z"⟩
abbrev cJx4a65c_add_7a177 : ByteArray := prog_17_method_26_code
def yJx4a65c_add_7a177 : MethodName := ⟨RJx4a65c, "add", "(ILjava/lang/Object;)V"⟩
abbrev cJx4a65c_remove_915e3 : ByteArray := prog_17_method_29_code
def yJx4a65c_remove_915e3 : MethodName := ⟨RJx4a65c, "remove", "(I)Ljava/lang/Object;"⟩
abbrev cJx4a65c_fastRemove_b59b0 : ByteArray := prog_17_method_39_code
def yJx4a65c_fastRemove_b59b0 : MethodName := ⟨RJx4a65c, "fastRemove", "([Ljava/lang/Object;I)V"⟩
abbrev cJx4a65c_clear_da8c8 : ByteArray := prog_17_method_40_code
def yJx4a65c_clear_da8c8 : MethodName := ⟨RJx4a65c, "clear", "()V"⟩
abbrev cJx4a65c_rangeCheckForAdd_d00df : ByteArray := prog_17_method_45_code
def yJx4a65c_rangeCheckForAdd_d00df : MethodName := ⟨RJx4a65c, "rangeCheckForAdd", "(I)V"⟩
def RJ7 : String := "java/util/Arrays"
def TJ7 : u_T := fun k => match k with
  | _ => ("", "", "", false)
def tyJ7 : Nat → FieldType := fun k => match k with
  | _ => .int
theorem nmJ7 : ∀ a, a < 0 → ∀ b, b < 0 → a ≠ b → (TJ7 a).2.1 ≠ (TJ7 b).2.1 := by decide +kernel
theorem tyJ7_ok : ∀ k, k < 0 → parseFieldDescriptor (TJ7 k).2.2.1 = some (tyJ7 k) := by decide +kernel
abbrev cJ7_copyOf_1904c : ByteArray := prog_18_method_119_code
def yJ7_copyOf_1904c : MethodName := ⟨RJ7, "copyOf", "([Ljava/lang/Object;I)[Ljava/lang/Object;"⟩
abbrev cJ7_copyOf_6403c : ByteArray := prog_18_method_120_code
def yJ7_copyOf_6403c : MethodName := ⟨RJ7, "copyOf", "([Ljava/lang/Object;ILjava/lang/Class;)[Ljava/lang/Object;"⟩
def RJx5ef63 : String := "java/util/Collection"
def TJx5ef63 : u_T := fun k => match k with
  | _ => ("", "", "", false)
def tyJx5ef63 : Nat → FieldType := fun k => match k with
  | _ => .int
theorem nmJx5ef63 : ∀ a, a < 0 → ∀ b, b < 0 → a ≠ b → (TJx5ef63 a).2.1 ≠ (TJx5ef63 b).2.1 := by decide +kernel
theorem tyJx5ef63_ok : ∀ k, k < 0 → parseFieldDescriptor (TJx5ef63 k).2.2.1 = some (tyJx5ef63 k) := by decide +kernel
def RJxbd725 : String := "java/util/List"
def TJxbd725 : u_T := fun k => match k with
  | _ => ("", "", "", false)
def tyJxbd725 : Nat → FieldType := fun k => match k with
  | _ => .int
theorem nmJxbd725 : ∀ a, a < 0 → ∀ b, b < 0 → a ≠ b → (TJxbd725 a).2.1 ≠ (TJxbd725 b).2.1 := by decide +kernel
theorem tyJxbd725_ok : ∀ k, k < 0 → parseFieldDescriptor (TJxbd725 k).2.2.1 = some (tyJxbd725 k) := by decide +kernel
def RJ15 : String := "java/util/Objects"
def TJ15 : u_T := fun k => match k with
  | _ => ("", "", "", false)
def tyJ15 : Nat → FieldType := fun k => match k with
  | _ => .int
theorem nmJ15 : ∀ a, a < 0 → ∀ b, b < 0 → a ≠ b → (TJ15 a).2.1 ≠ (TJ15 b).2.1 := by decide +kernel
theorem tyJ15_ok : ∀ k, k < 0 → parseFieldDescriptor (TJ15 k).2.2.1 = some (tyJ15 k) := by decide +kernel
abbrev cJ15_checkIndex_7cf53 : ByteArray := prog_21_method_17_code
def yJ15_checkIndex_7cf53 : MethodName := ⟨RJ15, "checkIndex", "(II)I"⟩
def RJxf0a74 : String := "java/util/RandomAccess"
def TJxf0a74 : u_T := fun k => match k with
  | _ => ("", "", "", false)
def tyJxf0a74 : Nat → FieldType := fun k => match k with
  | _ => .int
theorem nmJxf0a74 : ∀ a, a < 0 → ∀ b, b < 0 → a ≠ b → (TJxf0a74 a).2.1 ≠ (TJxf0a74 b).2.1 := by decide +kernel
theorem tyJxf0a74_ok : ∀ k, k < 0 → parseFieldDescriptor (TJxf0a74 k).2.2.1 = some (tyJxf0a74 k) := by decide +kernel
def RJxa66e6 : String := "java/util/SequencedCollection"
def TJxa66e6 : u_T := fun k => match k with
  | _ => ("", "", "", false)
def tyJxa66e6 : Nat → FieldType := fun k => match k with
  | _ => .int
theorem nmJxa66e6 : ∀ a, a < 0 → ∀ b, b < 0 → a ≠ b → (TJxa66e6 a).2.1 ≠ (TJxa66e6 b).2.1 := by decide +kernel
theorem tyJxa66e6_ok : ∀ k, k < 0 → parseFieldDescriptor (TJxa66e6 k).2.2.1 = some (tyJxa66e6 k) := by decide +kernel
def RJ8 : String := "jdk/internal/util/ArraysSupport"
def TJ8 : u_T := fun k => match k with
  | _ => ("", "", "", false)
def tyJ8 : Nat → FieldType := fun k => match k with
  | _ => .int
theorem nmJ8 : ∀ a, a < 0 → ∀ b, b < 0 → a ≠ b → (TJ8 a).2.1 ≠ (TJ8 b).2.1 := by decide +kernel
theorem tyJ8_ok : ∀ k, k < 0 → parseFieldDescriptor (TJ8 k).2.2.1 = some (tyJ8 k) := by decide +kernel
abbrev cJ8_newLength_cabcc : ByteArray := prog_24_method_27_code
def yJ8_newLength_cabcc : MethodName := ⟨RJ8, "newLength", "(III)I"⟩
abbrev cJ8_hugeLength_7cf53 : ByteArray := prog_24_method_28_code
def yJ8_hugeLength_7cf53 : MethodName := ⟨RJ8, "hugeLength", "(II)I"⟩
def RJ3 : String := "jdk/internal/util/Preconditions"
def TJ3 : u_T := fun k => match k with
  | _ => ("", "", "", false)
def tyJ3 : Nat → FieldType := fun k => match k with
  | _ => .int
theorem nmJ3 : ∀ a, a < 0 → ∀ b, b < 0 → a ≠ b → (TJ3 a).2.1 ≠ (TJ3 b).2.1 := by decide +kernel
theorem tyJ3_ok : ∀ k, k < 0 → parseFieldDescriptor (TJ3 k).2.2.1 = some (tyJ3 k) := by decide +kernel
abbrev cJ3_checkIndex_8e157 : ByteArray := prog_25_method_11_code
def yJ3_checkIndex_8e157 : MethodName := ⟨RJ3, "checkIndex", "(IILjava/util/function/BiFunction;)I"⟩
def RL : String := "ManyHandsLaw"
abbrev cL_law : ByteArray := code
def yL_law : MethodName := ⟨RL, "law", "([I)Z"⟩
abbrev vwCl : List vw_C := [(RJx4a65c, TJx4a65c, 3), (RX0, TX0, 10), (RX1, TX1, 7), (RX2, TX2, 3), (RX3, TX3, 4), (RX4, TX4, 1), (RX5, TX5, 2), (RX6, TX6, 10), (RX7, TX7, 28)]
end
section
def gtb : List Cond := lw_tbl.filter goodWord
theorem gtb_mem {w : Cond} (n : Nat) (h : lw_tbl[n]? = some w) (g : goodWord w = true) : w ∈ gtb := List.mem_filter.mpr ⟨List.mem_of_getElem? h, g⟩
theorem ks_0 : Cond.selects "ManyHands" ⟨"ManyHands", "pageAt", "(I)LManyHands$Page;"⟩ ⟨"ManyHands", "pageAt", "(I)LManyHands$Page;"⟩ ∈ gtb := gtb_mem 0 (by decide +kernel) rfl
theorem ks_1 : Cond.selects "ManyHands" ⟨"ManyHands", "handAt", "(I)LManyHands$Hand;"⟩ ⟨"ManyHands", "handAt", "(I)LManyHands$Hand;"⟩ ∈ gtb := gtb_mem 1 (by decide +kernel) rfl
theorem ks_2 : Cond.selects "ManyHands" ⟨"ManyHands", "refusalToChange", "(LManyHands$Hand;LManyHands$Page;I)I"⟩ ⟨"ManyHands", "refusalToChange", "(LManyHands$Hand;LManyHands$Page;I)I"⟩ ∈ gtb := gtb_mem 2 (by decide +kernel) rfl
theorem ks_3 : Cond.selects "ManyHands" ⟨"ManyHands", "refusalToSee", "(LManyHands$Hand;LManyHands$Page;I)I"⟩ ⟨"ManyHands", "refusalToSee", "(LManyHands$Hand;LManyHands$Page;I)I"⟩ ∈ gtb := gtb_mem 3 (by decide +kernel) rfl
theorem ks_4 : Cond.selects "ManyHands" ⟨"ManyHands", "found", "(I)I"⟩ ⟨"ManyHands", "found", "(I)I"⟩ ∈ gtb := gtb_mem 4 (by decide +kernel) rfl
theorem ks_5 : Cond.selects "ManyHands" ⟨"ManyHands", "make", "(LManyHands$Hand;LManyHands$Page;IIJ)I"⟩ ⟨"ManyHands", "make", "(LManyHands$Hand;LManyHands$Page;IIJ)I"⟩ ∈ gtb := gtb_mem 5 (by decide +kernel) rfl
theorem ks_6 : Cond.selects "java/util/ArrayList" ⟨"java/util/ArrayList", "add", "(Ljava/lang/Object;[Ljava/lang/Object;I)V"⟩ ⟨"java/util/ArrayList", "add", "(Ljava/lang/Object;[Ljava/lang/Object;I)V"⟩ ∈ gtb := gtb_mem 6 (by decide +kernel) rfl
theorem ks_7 : Cond.selects "java/util/ArrayList" ⟨"java/util/ArrayList", "grow", "()[Ljava/lang/Object;"⟩ ⟨"java/util/ArrayList", "grow", "()[Ljava/lang/Object;"⟩ ∈ gtb := gtb_mem 7 (by decide +kernel) rfl
theorem ks_8 : Cond.selects "java/util/ArrayList" ⟨"java/util/ArrayList", "grow", "(I)[Ljava/lang/Object;"⟩ ⟨"java/util/ArrayList", "grow", "(I)[Ljava/lang/Object;"⟩ ∈ gtb := gtb_mem 8 (by decide +kernel) rfl
theorem ks_9 : Cond.selects "ManyHands$Page" ⟨"ManyHands$Page", "unknownTo", "(LManyHands$Reach;III)I"⟩ ⟨"ManyHands$Page", "unknownTo", "(LManyHands$Reach;III)I"⟩ ∈ gtb := gtb_mem 9 (by decide +kernel) rfl
theorem ks_10 : Cond.selects "ManyHands$Page" ⟨"ManyHands$Page", "gatherKnown", "(LManyHands$Reach;II)V"⟩ ⟨"ManyHands$Page", "gatherKnown", "(LManyHands$Reach;II)V"⟩ ∈ gtb := gtb_mem 10 (by decide +kernel) rfl
theorem ks_11 : Cond.selects "ManyHands" ⟨"ManyHands", "makeOfRights", "(LManyHands$Hand;LManyHands$Page;IIJ)I"⟩ ⟨"ManyHands", "makeOfRights", "(LManyHands$Hand;LManyHands$Page;IIJ)I"⟩ ∈ gtb := gtb_mem 11 (by decide +kernel) rfl
theorem ks_12 : Cond.selects "ManyHands" ⟨"ManyHands", "entryAt", "(I)LManyHands$Entry;"⟩ ⟨"ManyHands", "entryAt", "(I)LManyHands$Entry;"⟩ ∈ gtb := gtb_mem 12 (by decide +kernel) rfl
theorem ks_13 : Cond.selects "ManyHands" ⟨"ManyHands", "allHave", "(LManyHands$Entry;)Z"⟩ ⟨"ManyHands", "allHave", "(LManyHands$Entry;)Z"⟩ ∈ gtb := gtb_mem 13 (by decide +kernel) rfl
theorem ks_14 : Cond.selects "java/util/ArrayList" ⟨"java/util/ArrayList", "rangeCheckForAdd", "(I)V"⟩ ⟨"java/util/ArrayList", "rangeCheckForAdd", "(I)V"⟩ ∈ gtb := gtb_mem 14 (by decide +kernel) rfl
theorem ks_15 : Cond.selects "java/util/ArrayList" ⟨"java/util/ArrayList", "fastRemove", "([Ljava/lang/Object;I)V"⟩ ⟨"java/util/ArrayList", "fastRemove", "([Ljava/lang/Object;I)V"⟩ ∈ gtb := gtb_mem 15 (by decide +kernel) rfl
theorem ks_16 : Cond.selects "ManyHands" ⟨"ManyHands", "leastLacking", "(LManyHands$Hand;LManyHands$Hand;)LManyHands$Entry;"⟩ ⟨"ManyHands", "leastLacking", "(LManyHands$Hand;LManyHands$Hand;)LManyHands$Entry;"⟩ ∈ gtb := gtb_mem 16 (by decide +kernel) rfl
theorem ks_17 : Cond.selects "ManyHands" ⟨"ManyHands", "tellAnd", "(JI)I"⟩ ⟨"ManyHands", "tellAnd", "(JI)I"⟩ ∈ gtb := gtb_mem 17 (by decide +kernel) rfl
theorem ks_18 : Cond.selects "ManyHands$Page" ⟨"ManyHands$Page", "headAbove", "(LManyHands$Reach;LManyHands$Entry;)LManyHands$Entry;"⟩ ⟨"ManyHands$Page", "headAbove", "(LManyHands$Reach;LManyHands$Entry;)LManyHands$Entry;"⟩ ∈ gtb := gtb_mem 18 (by decide +kernel) rfl
theorem ks_19 : Cond.selects "ManyHands$Page" ⟨"ManyHands$Page", "tellLast", "(LManyHands$Reach;LManyHands$Telling;)V"⟩ ⟨"ManyHands$Page", "tellLast", "(LManyHands$Reach;LManyHands$Telling;)V"⟩ ∈ gtb := gtb_mem 19 (by decide +kernel) rfl
theorem ks_20 : Cond.selects "ManyHands$Page" ⟨"ManyHands$Page", "tellTally", "(LManyHands$Reach;LManyHands$Telling;)V"⟩ ⟨"ManyHands$Page", "tellTally", "(LManyHands$Reach;LManyHands$Telling;)V"⟩ ∈ gtb := gtb_mem 20 (by decide +kernel) rfl
theorem ks_21 : Cond.selects "ManyHands" ⟨"ManyHands", "refusalToRead", "(LManyHands$LeafRow;I)I"⟩ ⟨"ManyHands", "refusalToRead", "(LManyHands$LeafRow;I)I"⟩ ∈ gtb := gtb_mem 21 (by decide +kernel) rfl
theorem ks_22 : Cond.selects "ManyHandsModel" ⟨"ManyHandsModel", "isPage", "(I)Z"⟩ ⟨"ManyHandsModel", "isPage", "(I)Z"⟩ ∈ gtb := gtb_mem 22 (by decide +kernel) rfl
theorem ks_23 : Cond.selects "ManyHandsModel" ⟨"ManyHandsModel", "isOf", "(II)Z"⟩ ⟨"ManyHandsModel", "isOf", "(II)Z"⟩ ∈ gtb := gtb_mem 23 (by decide +kernel) rfl
theorem ks_24 : Cond.selects "ManyHandsModel" ⟨"ManyHandsModel", "isHand", "(I)Z"⟩ ⟨"ManyHandsModel", "isHand", "(I)Z"⟩ ∈ gtb := gtb_mem 24 (by decide +kernel) rfl
theorem ks_25 : Cond.selects "ManyHandsModel" ⟨"ManyHandsModel", "needMake", "(ZIII)I"⟩ ⟨"ManyHandsModel", "needMake", "(ZIII)I"⟩ ∈ gtb := gtb_mem 25 (by decide +kernel) rfl
theorem ks_26 : Cond.selects "ManyHandsModel" ⟨"ManyHandsModel", "ownOf", "(I)I"⟩ ⟨"ManyHandsModel", "ownOf", "(I)I"⟩ ∈ gtb := gtb_mem 26 (by decide +kernel) rfl
theorem ks_27 : Cond.selects "ManyHandsModel" ⟨"ManyHandsModel", "needSee", "(III)I"⟩ ⟨"ManyHandsModel", "needSee", "(III)I"⟩ ∈ gtb := gtb_mem 27 (by decide +kernel) rfl
theorem ks_28 : Cond.selects "ManyHandsModel" ⟨"ManyHandsModel", "meets", "(I)I"⟩ ⟨"ManyHandsModel", "meets", "(I)I"⟩ ∈ gtb := gtb_mem 28 (by decide +kernel) rfl
theorem ks_29 : Cond.selects "ManyHandsModel" ⟨"ManyHandsModel", "make", "(IIIIIJ)I"⟩ ⟨"ManyHandsModel", "make", "(IIIIIJ)I"⟩ ∈ gtb := gtb_mem 29 (by decide +kernel) rfl
theorem ks_30 : Cond.selects "ManyHandsModel" ⟨"ManyHandsModel", "greatestCount", "(I)I"⟩ ⟨"ManyHandsModel", "greatestCount", "(I)I"⟩ ∈ gtb := gtb_mem 30 (by decide +kernel) rfl
theorem ks_31 : Cond.selects "ManyHandsModel" ⟨"ManyHandsModel", "countIn", "(III)I"⟩ ⟨"ManyHandsModel", "countIn", "(III)I"⟩ ∈ gtb := gtb_mem 31 (by decide +kernel) rfl
theorem ks_32 : Cond.selects "ManyHandsModel" ⟨"ManyHandsModel", "isOn", "(IIII)Z"⟩ ⟨"ManyHandsModel", "isOn", "(IIII)Z"⟩ ∈ gtb := gtb_mem 32 (by decide +kernel) rfl
theorem ks_33 : Cond.selects "ManyHandsModel" ⟨"ManyHandsModel", "rightsOf", "(III)J"⟩ ⟨"ManyHandsModel", "rightsOf", "(III)J"⟩ ∈ gtb := gtb_mem 33 (by decide +kernel) rfl
theorem ks_34 : Cond.selects "ManyHandsModel" ⟨"ManyHandsModel", "isChange", "(I)Z"⟩ ⟨"ManyHandsModel", "isChange", "(I)Z"⟩ ∈ gtb := gtb_mem 34 (by decide +kernel) rfl
theorem ks_35 : Cond.selects "ManyHandsModel" ⟨"ManyHandsModel", "size", "([JI)I"⟩ ⟨"ManyHandsModel", "size", "([JI)I"⟩ ∈ gtb := gtb_mem 35 (by decide +kernel) rfl
theorem ks_36 : Cond.selects "ManyHandsModel" ⟨"ManyHandsModel", "isReady", "(II)Z"⟩ ⟨"ManyHandsModel", "isReady", "(II)Z"⟩ ∈ gtb := gtb_mem 36 (by decide +kernel) rfl
theorem ks_37 : Cond.selects "ManyHandsModel" ⟨"ManyHandsModel", "takes", "(II)I"⟩ ⟨"ManyHandsModel", "takes", "(II)I"⟩ ∈ gtb := gtb_mem 37 (by decide +kernel) rfl
theorem ks_38 : Cond.selects "ManyHandsModel" ⟨"ManyHandsModel", "nextReady", "(I)I"⟩ ⟨"ManyHandsModel", "nextReady", "(I)I"⟩ ∈ gtb := gtb_mem 38 (by decide +kernel) rfl
theorem ks_39 : Cond.selects "ManyHandsModel" ⟨"ManyHandsModel", "isAfter", "(II)Z"⟩ ⟨"ManyHandsModel", "isAfter", "(II)Z"⟩ ∈ gtb := gtb_mem 39 (by decide +kernel) rfl
theorem ks_40 : Cond.selects "ManyHandsModel" ⟨"ManyHandsModel", "need", "(ZIII)I"⟩ ⟨"ManyHandsModel", "need", "(ZIII)I"⟩ ∈ gtb := gtb_mem 40 (by decide +kernel) rfl
theorem ks_41 : Cond.selects "ManyHandsModel" ⟨"ManyHandsModel", "telling", "(II)I"⟩ ⟨"ManyHandsModel", "telling", "(II)I"⟩ ∈ gtb := gtb_mem 41 (by decide +kernel) rfl
theorem ks_42 : Cond.selects "ManyHandsModel" ⟨"ManyHandsModel", "sumOf", "(II)J"⟩ ⟨"ManyHandsModel", "sumOf", "(II)J"⟩ ∈ gtb := gtb_mem 42 (by decide +kernel) rfl
theorem ks_43 : Cond.selects "ManyHandsModel" ⟨"ManyHandsModel", "manyOn", "(II)I"⟩ ⟨"ManyHandsModel", "manyOn", "(II)I"⟩ ∈ gtb := gtb_mem 43 (by decide +kernel) rfl
theorem ks_44 : Cond.selects "ManyHandsModel" ⟨"ManyHandsModel", "layHeads", "(II)V"⟩ ⟨"ManyHandsModel", "layHeads", "(II)V"⟩ ∈ gtb := gtb_mem 44 (by decide +kernel) rfl
theorem ks_45 : Cond.selects "ManyHandsModel" ⟨"ManyHandsModel", "isKnown", "(IIII)Z"⟩ ⟨"ManyHandsModel", "isKnown", "(IIII)Z"⟩ ∈ gtb := gtb_mem 45 (by decide +kernel) rfl
theorem ks_46 : Cond.selects "ManyHandsModel" ⟨"ManyHandsModel", "isUp", "(II)Z"⟩ ⟨"ManyHandsModel", "isUp", "(II)Z"⟩ ∈ gtb := gtb_mem 46 (by decide +kernel) rfl
theorem ks_47 : Cond.selects "ManyHandsModel" ⟨"ManyHandsModel", "manyDo", "(III)I"⟩ ⟨"ManyHandsModel", "manyDo", "(III)I"⟩ ∈ gtb := gtb_mem 47 (by decide +kernel) rfl
theorem ks_48 : Cond.selects "ManyHandsModel" ⟨"ManyHandsModel", "lay", "(II[J)I"⟩ ⟨"ManyHandsModel", "lay", "(II[J)I"⟩ ∈ gtb := gtb_mem 48 (by decide +kernel) rfl
theorem ks_49 : Cond.selects "ManyHandsModel" ⟨"ManyHandsModel", "lacksLeaf", "(II)I"⟩ ⟨"ManyHandsModel", "lacksLeaf", "(II)I"⟩ ∈ gtb := gtb_mem 49 (by decide +kernel) rfl
theorem kw_0 : (Jvm.Cond.initialized "ManyHandsLaw") ∈ gtb := gtb_mem 50 (by decide +kernel) rfl
theorem kw_1 : (Jvm.Cond.initialized "ManyHands") ∈ gtb := gtb_mem 51 (by decide +kernel) rfl
theorem kw_2 : (Jvm.Cond.initialized "java/util/AbstractCollection") ∈ gtb := gtb_mem 52 (by decide +kernel) rfl
theorem kw_3 : (Jvm.Cond.initialized "java/util/AbstractList") ∈ gtb := gtb_mem 53 (by decide +kernel) rfl
theorem kw_4 : (Jvm.Cond.initialized "java/util/ArrayList") ∈ gtb := gtb_mem 54 (by decide +kernel) rfl
theorem kw_5 : (Jvm.Cond.initialized "ManyHands$Telling") ∈ gtb := gtb_mem 55 (by decide +kernel) rfl
theorem kw_6 : (Jvm.Cond.initialized "ManyHandsModel") ∈ gtb := gtb_mem 56 (by decide +kernel) rfl
theorem kw_7 : (Jvm.Cond.initialized "ManyHands$Hand") ∈ gtb := gtb_mem 57 (by decide +kernel) rfl
theorem kw_8 : (Jvm.Cond.initialized "ManyHands$Reach") ∈ gtb := gtb_mem 58 (by decide +kernel) rfl
theorem kw_9 : (Jvm.Cond.initialized "ManyHands$LeafRow") ∈ gtb := gtb_mem 59 (by decide +kernel) rfl
theorem kw_10 : (Jvm.Cond.initialized "ManyHands$Page") ∈ gtb := gtb_mem 60 (by decide +kernel) rfl
theorem kw_11 : (Jvm.Cond.initialized "ManyHands$Entry") ∈ gtb := gtb_mem 61 (by decide +kernel) rfl
theorem kw_12 : (Jvm.Cond.initialized "jdk/internal/util/ArraysSupport") ∈ gtb := gtb_mem 62 (by decide +kernel) rfl
theorem kw_13 : (Jvm.Cond.initialized "java/lang/Math") ∈ gtb := gtb_mem 63 (by decide +kernel) rfl
theorem kw_14 : (Jvm.Cond.initialized "java/util/Arrays") ∈ gtb := gtb_mem 64 (by decide +kernel) rfl
theorem kw_15 : (Jvm.Cond.initialized "java/lang/System") ∈ gtb := gtb_mem 65 (by decide +kernel) rfl
theorem kw_16 : (Jvm.Cond.initialized "java/util/Objects") ∈ gtb := gtb_mem 66 (by decide +kernel) rfl
theorem kw_17 : (Jvm.Cond.initialized "jdk/internal/util/Preconditions") ∈ gtb := gtb_mem 67 (by decide +kernel) rfl
theorem kw_18 : (Jvm.Cond.classLink "ManyHandsLaw" (7 : Nat) "ManyHands") ∈ gtb := gtb_mem 68 (by decide +kernel) rfl
theorem kw_19 : (Jvm.Cond.instantiable "ManyHands" (10 : Nat)) ∈ gtb := gtb_mem 69 (by decide +kernel) rfl
theorem kw_20 : (Jvm.Cond.methodLink "ManyHandsLaw" (9 : Nat) ({ cls := "ManyHands", name := "<init>", desc := "()V" } : Jvm.MethodName)) ∈ gtb := gtb_mem 70 (by decide +kernel) rfl
theorem kw_21 : (Jvm.Cond.instanceMethod ({ cls := "ManyHands", name := "<init>", desc := "()V" } : Jvm.MethodName)) ∈ gtb := gtb_mem 71 (by decide +kernel) rfl
set_option maxRecDepth 20000 in
theorem kw_22 : (Jvm.Cond.code ({ cls := "ManyHands", name := "<init>", desc := "()V" } : Jvm.MethodName) prog_1_method_1_code (1 : Nat) (Option.none : Option Jvm.ClassFile.FieldType)) ∈ gtb := gtb_mem 72 (by exact rfl) rfl
theorem kw_23 : (Jvm.Cond.methodLink "ManyHands" (1 : Nat) ({ cls := "java/lang/Object", name := "<init>", desc := "()V" } : Jvm.MethodName)) ∈ gtb := gtb_mem 73 (by decide +kernel) rfl
theorem kw_24 : (Jvm.Cond.instanceMethod ({ cls := "java/lang/Object", name := "<init>", desc := "()V" } : Jvm.MethodName)) ∈ gtb := gtb_mem 74 (by decide +kernel) rfl
set_option maxRecDepth 20000 in
theorem kw_25 : (Jvm.Cond.code ({ cls := "java/lang/Object", name := "<init>", desc := "()V" } : Jvm.MethodName) object_method_1_code (1 : Nat) (Option.none : Option Jvm.ClassFile.FieldType)) ∈ gtb := gtb_mem 75 (by exact rfl) rfl
theorem kw_26 : (Jvm.Cond.classLink "ManyHands" (9 : Nat) "ManyHands$Hand") ∈ gtb := gtb_mem 76 (by decide +kernel) rfl
theorem kw_28 : (Jvm.Cond.classLink "ManyHands" (15 : Nat) "ManyHands$Page") ∈ gtb := gtb_mem 78 (by decide +kernel) rfl
theorem kw_30 : (Jvm.Cond.classLink "ManyHands" (21 : Nat) "java/util/ArrayList") ∈ gtb := gtb_mem 80 (by decide +kernel) rfl
theorem kw_31 : (Jvm.Cond.instantiable "java/util/ArrayList" (3 : Nat)) ∈ gtb := gtb_mem 81 (by decide +kernel) rfl
theorem kw_32 : (Jvm.Cond.methodLink "ManyHands" (23 : Nat) ({ cls := "java/util/ArrayList", name := "<init>", desc := "()V" } : Jvm.MethodName)) ∈ gtb := gtb_mem 82 (by decide +kernel) rfl
theorem kw_33 : (Jvm.Cond.instanceMethod ({ cls := "java/util/ArrayList", name := "<init>", desc := "()V" } : Jvm.MethodName)) ∈ gtb := gtb_mem 83 (by decide +kernel) rfl
set_option maxRecDepth 20000 in
theorem kw_34 : (Jvm.Cond.code ({ cls := "java/util/ArrayList", name := "<init>", desc := "()V" } : Jvm.MethodName) prog_17_method_2_code (1 : Nat) (Option.none : Option Jvm.ClassFile.FieldType)) ∈ gtb := gtb_mem 84 (by exact rfl) rfl
theorem kw_35 : (Jvm.Cond.methodLink "java/util/ArrayList" (1 : Nat) ({ cls := "java/util/AbstractList", name := "<init>", desc := "()V" } : Jvm.MethodName)) ∈ gtb := gtb_mem 85 (by decide +kernel) rfl
theorem kw_36 : (Jvm.Cond.instanceMethod ({ cls := "java/util/AbstractList", name := "<init>", desc := "()V" } : Jvm.MethodName)) ∈ gtb := gtb_mem 86 (by decide +kernel) rfl
set_option maxRecDepth 20000 in
theorem kw_37 : (Jvm.Cond.code ({ cls := "java/util/AbstractList", name := "<init>", desc := "()V" } : Jvm.MethodName) prog_16_method_1_code (1 : Nat) (Option.none : Option Jvm.ClassFile.FieldType)) ∈ gtb := gtb_mem 87 (by exact rfl) rfl
theorem kw_38 : (Jvm.Cond.methodLink "java/util/AbstractList" (1 : Nat) ({ cls := "java/util/AbstractCollection", name := "<init>", desc := "()V" } : Jvm.MethodName)) ∈ gtb := gtb_mem 88 (by decide +kernel) rfl
theorem kw_39 : (Jvm.Cond.instanceMethod ({ cls := "java/util/AbstractCollection", name := "<init>", desc := "()V" } : Jvm.MethodName)) ∈ gtb := gtb_mem 89 (by decide +kernel) rfl
set_option maxRecDepth 20000 in
theorem kw_40 : (Jvm.Cond.code ({ cls := "java/util/AbstractCollection", name := "<init>", desc := "()V" } : Jvm.MethodName) prog_15_method_1_code (1 : Nat) (Option.none : Option Jvm.ClassFile.FieldType)) ∈ gtb := gtb_mem 90 (by exact rfl) rfl
theorem kw_41 : (Jvm.Cond.methodLink "java/util/AbstractCollection" (1 : Nat) ({ cls := "java/lang/Object", name := "<init>", desc := "()V" } : Jvm.MethodName)) ∈ gtb := gtb_mem 91 (by decide +kernel) rfl
theorem kw_42 : (Jvm.Cond.fieldLink "java/util/ArrayList" (39 : Nat) "java/util/ArrayList" "DEFAULTCAPACITY_EMPTY_ELEMENTDATA" "[Ljava/lang/Object;") ∈ gtb := gtb_mem 92 (by decide +kernel) rfl
theorem kw_44 : (Jvm.Cond.fieldLink "java/util/ArrayList" (9 : Nat) "java/util/ArrayList" "elementData" "[Ljava/lang/Object;") ∈ gtb := gtb_mem 94 (by decide +kernel) rfl
theorem kw_45 : (Jvm.Cond.fieldLink "java/util/ArrayList" (48 : Nat) "java/util/ArrayList" "size" "I") ∈ gtb := gtb_mem 95 (by decide +kernel) rfl
theorem kw_46 : (Jvm.Cond.fieldLink "java/util/AbstractList" (7 : Nat) "java/util/AbstractList" "modCount" "I") ∈ gtb := gtb_mem 96 (by decide +kernel) rfl
theorem kw_47 : (Jvm.Cond.fieldLink "java/util/ArrayList" (63 : Nat) "java/util/ArrayList" "modCount" "I") ∈ gtb := gtb_mem 97 (by decide +kernel) rfl
theorem kw_48 : (Jvm.Cond.sameField "java/util/ArrayList" "java/util/AbstractList" "modCount" "I") ∈ gtb := gtb_mem 98 (by decide +kernel) rfl
theorem kw_49 : (Jvm.Cond.lays "java/util/ArrayList" "java/util/ArrayList" "elementData" "[Ljava/lang/Object;") ∈ gtb := gtb_mem 99 (by decide +kernel) rfl
theorem kw_51 : (Jvm.Cond.lays "java/util/ArrayList" "java/util/ArrayList" "size" "I") ∈ gtb := gtb_mem 101 (by decide +kernel) rfl
theorem kw_53 : (Jvm.Cond.lays "java/util/ArrayList" "java/util/AbstractList" "modCount" "I") ∈ gtb := gtb_mem 103 (by decide +kernel) rfl
theorem kw_56 : (Jvm.Cond.classLink "ManyHands" (32 : Nat) "ManyHands$Telling") ∈ gtb := gtb_mem 106 (by decide +kernel) rfl
theorem kw_57 : (Jvm.Cond.instantiable "ManyHands$Telling" (2 : Nat)) ∈ gtb := gtb_mem 107 (by decide +kernel) rfl
theorem kw_59 : (Jvm.Cond.instanceMethod ({ cls := "ManyHands$Telling", name := "<init>", desc := "()V" } : Jvm.MethodName)) ∈ gtb := gtb_mem 109 (by decide +kernel) rfl
set_option maxRecDepth 20000 in
theorem kw_60 : (Jvm.Cond.code ({ cls := "ManyHands$Telling", name := "<init>", desc := "()V" } : Jvm.MethodName) prog_7_method_1_code (1 : Nat) (Option.none : Option Jvm.ClassFile.FieldType)) ∈ gtb := gtb_mem 110 (by exact rfl) rfl
theorem kw_61 : (Jvm.Cond.methodLink "ManyHands$Telling" (3 : Nat) ({ cls := "java/lang/Object", name := "<init>", desc := "()V" } : Jvm.MethodName)) ∈ gtb := gtb_mem 111 (by decide +kernel) rfl
theorem kw_62 : (Jvm.Cond.fieldLink "ManyHands$Telling" (9 : Nat) "ManyHands$Telling" "numbers" "[J") ∈ gtb := gtb_mem 112 (by decide +kernel) rfl
theorem kw_63 : (Jvm.Cond.fieldLink "ManyHands$Telling" (15 : Nat) "ManyHands$Telling" "size" "I") ∈ gtb := gtb_mem 113 (by decide +kernel) rfl
theorem kw_64 : (Jvm.Cond.fieldLink "ManyHands$Page" (95 : Nat) "ManyHands$Telling" "size" "I") ∈ gtb := gtb_mem 114 (by decide +kernel) rfl
theorem kw_65 : (Jvm.Cond.laysFinal "ManyHands$Telling" "ManyHands$Telling" "numbers" "[J") ∈ gtb := gtb_mem 115 (by decide +kernel) rfl
theorem kw_67 : (Jvm.Cond.lays "ManyHands$Telling" "ManyHands$Telling" "size" "I") ∈ gtb := gtb_mem 117 (by decide +kernel) rfl
theorem kw_70 : (Jvm.Cond.arrayClass Jvm.ClassFile.FieldType.int) ∈ gtb := gtb_mem 120 (by decide +kernel) rfl
theorem kw_71 : (Jvm.Cond.arrayClass Jvm.ClassFile.FieldType.long) ∈ gtb := gtb_mem 121 (by decide +kernel) rfl
theorem kw_72 : (Jvm.Cond.fieldLink "ManyHands" (11 : Nat) "ManyHands" "hands" "[LManyHands$Hand;") ∈ gtb := gtb_mem 122 (by decide +kernel) rfl
theorem kw_73 : (Jvm.Cond.fieldLink "ManyHands" (17 : Nat) "ManyHands" "pages" "[LManyHands$Page;") ∈ gtb := gtb_mem 123 (by decide +kernel) rfl
theorem kw_74 : (Jvm.Cond.fieldLink "ManyHands" (24 : Nat) "ManyHands" "entries" "Ljava/util/ArrayList;") ∈ gtb := gtb_mem 124 (by decide +kernel) rfl
theorem kw_75 : (Jvm.Cond.fieldLink "ManyHands" (28 : Nat) "ManyHands" "timesFound" "[I") ∈ gtb := gtb_mem 125 (by decide +kernel) rfl
theorem kw_76 : (Jvm.Cond.fieldLink "ManyHands" (35 : Nat) "ManyHands" "telling" "LManyHands$Telling;") ∈ gtb := gtb_mem 126 (by decide +kernel) rfl
theorem kw_77 : (Jvm.Cond.fieldLink "ManyHands" (39 : Nat) "ManyHands" "otherTelling" "LManyHands$Telling;") ∈ gtb := gtb_mem 127 (by decide +kernel) rfl
theorem kw_78 : (Jvm.Cond.fieldLink "ManyHands" (42 : Nat) "ManyHands" "handCount" "I") ∈ gtb := gtb_mem 128 (by decide +kernel) rfl
theorem kw_79 : (Jvm.Cond.fieldLink "ManyHands" (57 : Nat) "ManyHands" "pageCount" "I") ∈ gtb := gtb_mem 129 (by decide +kernel) rfl
theorem kw_80 : (Jvm.Cond.fieldLink "ManyHands" (260 : Nat) "ManyHands" "latestFinding" "I") ∈ gtb := gtb_mem 130 (by decide +kernel) rfl
theorem kw_81 : (Jvm.Cond.fieldLink "ManyHands" (237 : Nat) "ManyHands" "latestTold" "J") ∈ gtb := gtb_mem 131 (by decide +kernel) rfl
theorem kw_82 : (Jvm.Cond.laysFinal "ManyHands" "ManyHands" "hands" "[LManyHands$Hand;") ∈ gtb := gtb_mem 132 (by decide +kernel) rfl
theorem kw_84 : (Jvm.Cond.laysFinal "ManyHands" "ManyHands" "pages" "[LManyHands$Page;") ∈ gtb := gtb_mem 134 (by decide +kernel) rfl
theorem kw_86 : (Jvm.Cond.laysFinal "ManyHands" "ManyHands" "entries" "Ljava/util/ArrayList;") ∈ gtb := gtb_mem 136 (by decide +kernel) rfl
theorem kw_88 : (Jvm.Cond.laysFinal "ManyHands" "ManyHands" "timesFound" "[I") ∈ gtb := gtb_mem 138 (by decide +kernel) rfl
theorem kw_90 : (Jvm.Cond.laysFinal "ManyHands" "ManyHands" "telling" "LManyHands$Telling;") ∈ gtb := gtb_mem 140 (by decide +kernel) rfl
theorem kw_92 : (Jvm.Cond.laysFinal "ManyHands" "ManyHands" "otherTelling" "LManyHands$Telling;") ∈ gtb := gtb_mem 142 (by decide +kernel) rfl
theorem kw_94 : (Jvm.Cond.lays "ManyHands" "ManyHands" "handCount" "I") ∈ gtb := gtb_mem 144 (by decide +kernel) rfl
theorem kw_96 : (Jvm.Cond.lays "ManyHands" "ManyHands" "pageCount" "I") ∈ gtb := gtb_mem 146 (by decide +kernel) rfl
theorem kw_98 : (Jvm.Cond.lays "ManyHands" "ManyHands" "latestFinding" "I") ∈ gtb := gtb_mem 148 (by decide +kernel) rfl
theorem kw_100 : (Jvm.Cond.lays "ManyHands" "ManyHands" "latestTold" "J") ∈ gtb := gtb_mem 150 (by decide +kernel) rfl
theorem kw_103 : (Jvm.Cond.methodLink "ManyHandsLaw" (13 : Nat) ({ cls := "ManyHands", name := "hand", desc := "()I" } : Jvm.MethodName)) ∈ gtb := gtb_mem 153 (by decide +kernel) rfl
theorem kw_104 : (Jvm.Cond.instanceMethod ({ cls := "ManyHands", name := "hand", desc := "()I" } : Jvm.MethodName)) ∈ gtb := gtb_mem 154 (by decide +kernel) rfl
theorem kw_105 : (Jvm.Cond.selects "ManyHands" ({ cls := "ManyHands", name := "hand", desc := "()I" } : Jvm.MethodName) ({ cls := "ManyHands", name := "hand", desc := "()I" } : Jvm.MethodName)) ∈ gtb := gtb_mem 155 (by decide +kernel) rfl
set_option maxRecDepth 20000 in
theorem kw_106 : (Jvm.Cond.code ({ cls := "ManyHands", name := "hand", desc := "()I" } : Jvm.MethodName) prog_1_method_2_code (1 : Nat) (Option.some Jvm.ClassFile.FieldType.int)) ∈ gtb := gtb_mem 156 (by exact rfl) rfl
theorem kw_107 : (Jvm.Cond.methodLink "ManyHands" (46 : Nat) ({ cls := "java/util/ArrayList", name := "isEmpty", desc := "()Z" } : Jvm.MethodName)) ∈ gtb := gtb_mem 157 (by decide +kernel) rfl
theorem kw_108 : (Jvm.Cond.instanceMethod ({ cls := "java/util/ArrayList", name := "isEmpty", desc := "()Z" } : Jvm.MethodName)) ∈ gtb := gtb_mem 158 (by decide +kernel) rfl
theorem kw_109 : (Jvm.Cond.selects "java/util/ArrayList" ({ cls := "java/util/ArrayList", name := "isEmpty", desc := "()Z" } : Jvm.MethodName) ({ cls := "java/util/ArrayList", name := "isEmpty", desc := "()Z" } : Jvm.MethodName)) ∈ gtb := gtb_mem 159 (by decide +kernel) rfl
set_option maxRecDepth 20000 in
theorem kw_110 : (Jvm.Cond.code ({ cls := "java/util/ArrayList", name := "isEmpty", desc := "()Z" } : Jvm.MethodName) prog_17_method_9_code (1 : Nat) (Option.some Jvm.ClassFile.FieldType.boolean)) ∈ gtb := gtb_mem 160 (by exact rfl) rfl
theorem kw_111 : (Jvm.Cond.instantiable "ManyHands$Hand" (7 : Nat)) ∈ gtb := gtb_mem 161 (by decide +kernel) rfl
theorem kw_112 : (Jvm.Cond.methodLink "ManyHands" (50 : Nat) ({ cls := "ManyHands$Hand", name := "<init>", desc := "(I)V" } : Jvm.MethodName)) ∈ gtb := gtb_mem 162 (by decide +kernel) rfl
theorem kw_113 : (Jvm.Cond.instanceMethod ({ cls := "ManyHands$Hand", name := "<init>", desc := "(I)V" } : Jvm.MethodName)) ∈ gtb := gtb_mem 163 (by decide +kernel) rfl
set_option maxRecDepth 20000 in
theorem kw_114 : (Jvm.Cond.code ({ cls := "ManyHands$Hand", name := "<init>", desc := "(I)V" } : Jvm.MethodName) prog_3_method_1_code (2 : Nat) (Option.none : Option Jvm.ClassFile.FieldType)) ∈ gtb := gtb_mem 164 (by exact rfl) rfl
theorem kw_115 : (Jvm.Cond.methodLink "ManyHands$Hand" (3 : Nat) ({ cls := "java/lang/Object", name := "<init>", desc := "()V" } : Jvm.MethodName)) ∈ gtb := gtb_mem 165 (by decide +kernel) rfl
theorem kw_116 : (Jvm.Cond.classLink "ManyHands$Hand" (9 : Nat) "ManyHands$Reach") ∈ gtb := gtb_mem 166 (by decide +kernel) rfl
theorem kw_117 : (Jvm.Cond.instantiable "ManyHands$Reach" (1 : Nat)) ∈ gtb := gtb_mem 167 (by decide +kernel) rfl
theorem kw_119 : (Jvm.Cond.instanceMethod ({ cls := "ManyHands$Reach", name := "<init>", desc := "()V" } : Jvm.MethodName)) ∈ gtb := gtb_mem 169 (by decide +kernel) rfl
set_option maxRecDepth 20000 in
theorem kw_120 : (Jvm.Cond.code ({ cls := "ManyHands$Reach", name := "<init>", desc := "()V" } : Jvm.MethodName) prog_6_method_1_code (1 : Nat) (Option.none : Option Jvm.ClassFile.FieldType)) ∈ gtb := gtb_mem 170 (by exact rfl) rfl
theorem kw_121 : (Jvm.Cond.methodLink "ManyHands$Reach" (3 : Nat) ({ cls := "java/lang/Object", name := "<init>", desc := "()V" } : Jvm.MethodName)) ∈ gtb := gtb_mem 171 (by decide +kernel) rfl
theorem kw_122 : (Jvm.Cond.fieldLink "ManyHands$Reach" (9 : Nat) "ManyHands$Reach" "upTo" "[I") ∈ gtb := gtb_mem 172 (by decide +kernel) rfl
theorem kw_123 : (Jvm.Cond.fieldLink "ManyHands$Hand" (43 : Nat) "ManyHands$Reach" "upTo" "[I") ∈ gtb := gtb_mem 173 (by decide +kernel) rfl
theorem kw_124 : (Jvm.Cond.fieldLink "ManyHands" (306 : Nat) "ManyHands$Reach" "upTo" "[I") ∈ gtb := gtb_mem 174 (by decide +kernel) rfl
theorem kw_125 : (Jvm.Cond.laysFinal "ManyHands$Reach" "ManyHands$Reach" "upTo" "[I") ∈ gtb := gtb_mem 175 (by decide +kernel) rfl
theorem kw_128 : (Jvm.Cond.classLink "ManyHands$Hand" (18 : Nat) "java/util/ArrayList") ∈ gtb := gtb_mem 178 (by decide +kernel) rfl
theorem kw_129 : (Jvm.Cond.methodLink "ManyHands$Hand" (20 : Nat) ({ cls := "java/util/ArrayList", name := "<init>", desc := "()V" } : Jvm.MethodName)) ∈ gtb := gtb_mem 179 (by decide +kernel) rfl
theorem kw_130 : (Jvm.Cond.classLink "ManyHands$Hand" (32 : Nat) "ManyHands$LeafRow") ∈ gtb := gtb_mem 180 (by decide +kernel) rfl
theorem kw_131 : (Jvm.Cond.instantiable "ManyHands$LeafRow" (3 : Nat)) ∈ gtb := gtb_mem 181 (by decide +kernel) rfl
theorem kw_133 : (Jvm.Cond.instanceMethod ({ cls := "ManyHands$LeafRow", name := "<init>", desc := "()V" } : Jvm.MethodName)) ∈ gtb := gtb_mem 183 (by decide +kernel) rfl
set_option maxRecDepth 20000 in
theorem kw_134 : (Jvm.Cond.code ({ cls := "ManyHands$LeafRow", name := "<init>", desc := "()V" } : Jvm.MethodName) prog_4_method_1_code (1 : Nat) (Option.none : Option Jvm.ClassFile.FieldType)) ∈ gtb := gtb_mem 184 (by exact rfl) rfl
theorem kw_135 : (Jvm.Cond.methodLink "ManyHands$LeafRow" (3 : Nat) ({ cls := "java/lang/Object", name := "<init>", desc := "()V" } : Jvm.MethodName)) ∈ gtb := gtb_mem 185 (by decide +kernel) rfl
theorem kw_136 : (Jvm.Cond.fieldLink "ManyHands$LeafRow" (9 : Nat) "ManyHands$LeafRow" "numbers" "[J") ∈ gtb := gtb_mem 186 (by decide +kernel) rfl
theorem kw_137 : (Jvm.Cond.fieldLink "ManyHands" (251 : Nat) "ManyHands$LeafRow" "numbers" "[J") ∈ gtb := gtb_mem 187 (by decide +kernel) rfl
theorem kw_138 : (Jvm.Cond.fieldLink "ManyHands$LeafRow" (15 : Nat) "ManyHands$LeafRow" "marks" "[I") ∈ gtb := gtb_mem 188 (by decide +kernel) rfl
theorem kw_139 : (Jvm.Cond.fieldLink "ManyHands$LeafRow" (19 : Nat) "ManyHands$LeafRow" "size" "I") ∈ gtb := gtb_mem 189 (by decide +kernel) rfl
theorem kw_140 : (Jvm.Cond.laysFinal "ManyHands$LeafRow" "ManyHands$LeafRow" "numbers" "[J") ∈ gtb := gtb_mem 190 (by decide +kernel) rfl
theorem kw_142 : (Jvm.Cond.laysFinal "ManyHands$LeafRow" "ManyHands$LeafRow" "marks" "[I") ∈ gtb := gtb_mem 192 (by decide +kernel) rfl
theorem kw_144 : (Jvm.Cond.lays "ManyHands$LeafRow" "ManyHands$LeafRow" "size" "I") ∈ gtb := gtb_mem 194 (by decide +kernel) rfl
theorem kw_147 : (Jvm.Cond.arrayClass Jvm.ClassFile.FieldType.boolean) ∈ gtb := gtb_mem 197 (by decide +kernel) rfl
theorem kw_148 : (Jvm.Cond.fieldLink "ManyHands$Entry" (22 : Nat) "ManyHands$Hand" "number" "I") ∈ gtb := gtb_mem 198 (by decide +kernel) rfl
theorem kw_149 : (Jvm.Cond.fieldLink "ManyHands$Hand" (39 : Nat) "ManyHands$Hand" "number" "I") ∈ gtb := gtb_mem 199 (by decide +kernel) rfl
theorem kw_150 : (Jvm.Cond.fieldLink "ManyHands" (288 : Nat) "ManyHands$Hand" "number" "I") ∈ gtb := gtb_mem 200 (by decide +kernel) rfl
theorem kw_151 : (Jvm.Cond.fieldLink "ManyHands$Hand" (12 : Nat) "ManyHands$Hand" "reach" "LManyHands$Reach;") ∈ gtb := gtb_mem 201 (by decide +kernel) rfl
theorem kw_152 : (Jvm.Cond.fieldLink "ManyHands$Entry" (63 : Nat) "ManyHands$Hand" "reach" "LManyHands$Reach;") ∈ gtb := gtb_mem 202 (by decide +kernel) rfl
theorem kw_153 : (Jvm.Cond.fieldLink "ManyHands" (107 : Nat) "ManyHands$Hand" "reach" "LManyHands$Reach;") ∈ gtb := gtb_mem 203 (by decide +kernel) rfl
theorem kw_154 : (Jvm.Cond.fieldLink "ManyHands$Hand" (21 : Nat) "ManyHands$Hand" "own" "Ljava/util/ArrayList;") ∈ gtb := gtb_mem 204 (by decide +kernel) rfl
theorem kw_155 : (Jvm.Cond.fieldLink "ManyHands$Entry" (50 : Nat) "ManyHands$Hand" "own" "Ljava/util/ArrayList;") ∈ gtb := gtb_mem 205 (by decide +kernel) rfl
theorem kw_156 : (Jvm.Cond.fieldLink "ManyHands" (300 : Nat) "ManyHands$Hand" "own" "Ljava/util/ArrayList;") ∈ gtb := gtb_mem 206 (by decide +kernel) rfl
theorem kw_157 : (Jvm.Cond.fieldLink "ManyHands$Hand" (25 : Nat) "ManyHands$Hand" "waiting" "Ljava/util/ArrayList;") ∈ gtb := gtb_mem 207 (by decide +kernel) rfl
theorem kw_158 : (Jvm.Cond.fieldLink "ManyHands$Hand" (28 : Nat) "ManyHands$Hand" "ignored" "[Z") ∈ gtb := gtb_mem 208 (by decide +kernel) rfl
theorem kw_159 : (Jvm.Cond.fieldLink "ManyHands" (78 : Nat) "ManyHands$Hand" "ignored" "[Z") ∈ gtb := gtb_mem 209 (by decide +kernel) rfl
theorem kw_160 : (Jvm.Cond.fieldLink "ManyHands$Hand" (35 : Nat) "ManyHands$Hand" "row" "LManyHands$LeafRow;") ∈ gtb := gtb_mem 210 (by decide +kernel) rfl
theorem kw_161 : (Jvm.Cond.fieldLink "ManyHands" (224 : Nat) "ManyHands$Hand" "row" "LManyHands$LeafRow;") ∈ gtb := gtb_mem 211 (by decide +kernel) rfl
theorem kw_162 : (Jvm.Cond.fieldLink "ManyHands$Entry" (44 : Nat) "ManyHands$Hand" "greatestCount" "I") ∈ gtb := gtb_mem 212 (by decide +kernel) rfl
theorem kw_163 : (Jvm.Cond.fieldLink "ManyHands$Hand" (63 : Nat) "ManyHands$Hand" "greatestCount" "I") ∈ gtb := gtb_mem 213 (by decide +kernel) rfl
theorem kw_164 : (Jvm.Cond.laysFinal "ManyHands$Hand" "ManyHands$Hand" "number" "I") ∈ gtb := gtb_mem 214 (by decide +kernel) rfl
theorem kw_166 : (Jvm.Cond.laysFinal "ManyHands$Hand" "ManyHands$Hand" "reach" "LManyHands$Reach;") ∈ gtb := gtb_mem 216 (by decide +kernel) rfl
theorem kw_168 : (Jvm.Cond.laysFinal "ManyHands$Hand" "ManyHands$Hand" "own" "Ljava/util/ArrayList;") ∈ gtb := gtb_mem 218 (by decide +kernel) rfl
theorem kw_170 : (Jvm.Cond.laysFinal "ManyHands$Hand" "ManyHands$Hand" "waiting" "Ljava/util/ArrayList;") ∈ gtb := gtb_mem 220 (by decide +kernel) rfl
theorem kw_172 : (Jvm.Cond.laysFinal "ManyHands$Hand" "ManyHands$Hand" "ignored" "[Z") ∈ gtb := gtb_mem 222 (by decide +kernel) rfl
theorem kw_174 : (Jvm.Cond.laysFinal "ManyHands$Hand" "ManyHands$Hand" "row" "LManyHands$LeafRow;") ∈ gtb := gtb_mem 224 (by decide +kernel) rfl
theorem kw_176 : (Jvm.Cond.lays "ManyHands$Hand" "ManyHands$Hand" "greatestCount" "I") ∈ gtb := gtb_mem 226 (by decide +kernel) rfl
theorem kw_179 : (Jvm.Cond.methodLink "ManyHandsLaw" (18 : Nat) ({ cls := "ManyHands", name := "page", desc := "(I)I" } : Jvm.MethodName)) ∈ gtb := gtb_mem 229 (by decide +kernel) rfl
theorem kw_180 : (Jvm.Cond.instanceMethod ({ cls := "ManyHands", name := "page", desc := "(I)I" } : Jvm.MethodName)) ∈ gtb := gtb_mem 230 (by decide +kernel) rfl
theorem kw_181 : (Jvm.Cond.selects "ManyHands" ({ cls := "ManyHands", name := "page", desc := "(I)I" } : Jvm.MethodName) ({ cls := "ManyHands", name := "page", desc := "(I)I" } : Jvm.MethodName)) ∈ gtb := gtb_mem 231 (by decide +kernel) rfl
set_option maxRecDepth 20000 in
theorem kw_182 : (Jvm.Cond.code ({ cls := "ManyHands", name := "page", desc := "(I)I" } : Jvm.MethodName) prog_1_method_3_code (2 : Nat) (Option.some Jvm.ClassFile.FieldType.int)) ∈ gtb := gtb_mem 232 (by exact rfl) rfl
theorem kw_183 : (Jvm.Cond.methodLink "ManyHands" (53 : Nat) ({ cls := "ManyHands", name := "isKind", desc := "(I)Z" } : Jvm.MethodName)) ∈ gtb := gtb_mem 233 (by decide +kernel) rfl
theorem kw_184 : (Jvm.Cond.static ({ cls := "ManyHands", name := "isKind", desc := "(I)Z" } : Jvm.MethodName)) ∈ gtb := gtb_mem 234 (by decide +kernel) rfl
set_option maxRecDepth 20000 in
theorem kw_185 : (Jvm.Cond.code ({ cls := "ManyHands", name := "isKind", desc := "(I)Z" } : Jvm.MethodName) prog_1_method_44_code (1 : Nat) (Option.some Jvm.ClassFile.FieldType.boolean)) ∈ gtb := gtb_mem 235 (by exact rfl) rfl
theorem kw_186 : (Jvm.Cond.instantiable "ManyHands$Page" (4 : Nat)) ∈ gtb := gtb_mem 236 (by decide +kernel) rfl
theorem kw_187 : (Jvm.Cond.methodLink "ManyHands" (60 : Nat) ({ cls := "ManyHands$Page", name := "<init>", desc := "(II)V" } : Jvm.MethodName)) ∈ gtb := gtb_mem 237 (by decide +kernel) rfl
theorem kw_188 : (Jvm.Cond.instanceMethod ({ cls := "ManyHands$Page", name := "<init>", desc := "(II)V" } : Jvm.MethodName)) ∈ gtb := gtb_mem 238 (by decide +kernel) rfl
set_option maxRecDepth 20000 in
theorem kw_189 : (Jvm.Cond.code ({ cls := "ManyHands$Page", name := "<init>", desc := "(II)V" } : Jvm.MethodName) prog_5_method_1_code (3 : Nat) (Option.none : Option Jvm.ClassFile.FieldType)) ∈ gtb := gtb_mem 239 (by exact rfl) rfl
theorem kw_190 : (Jvm.Cond.methodLink "ManyHands$Page" (3 : Nat) ({ cls := "java/lang/Object", name := "<init>", desc := "()V" } : Jvm.MethodName)) ∈ gtb := gtb_mem 240 (by decide +kernel) rfl
theorem kw_191 : (Jvm.Cond.classLink "ManyHands$Page" (9 : Nat) "ManyHands$Reach") ∈ gtb := gtb_mem 241 (by decide +kernel) rfl
theorem kw_193 : (Jvm.Cond.classLink "ManyHands$Page" (25 : Nat) "ManyHands$Entry") ∈ gtb := gtb_mem 243 (by decide +kernel) rfl
theorem kw_195 : (Jvm.Cond.fieldLink "ManyHands$Page" (18 : Nat) "ManyHands$Page" "number" "I") ∈ gtb := gtb_mem 245 (by decide +kernel) rfl
theorem kw_196 : (Jvm.Cond.fieldLink "ManyHands$Entry" (28 : Nat) "ManyHands$Page" "number" "I") ∈ gtb := gtb_mem 246 (by decide +kernel) rfl
theorem kw_197 : (Jvm.Cond.fieldLink "ManyHands" (82 : Nat) "ManyHands$Page" "number" "I") ∈ gtb := gtb_mem 247 (by decide +kernel) rfl
theorem kw_198 : (Jvm.Cond.fieldLink "ManyHands$Page" (22 : Nat) "ManyHands$Page" "kind" "I") ∈ gtb := gtb_mem 248 (by decide +kernel) rfl
theorem kw_199 : (Jvm.Cond.fieldLink "ManyHands" (93 : Nat) "ManyHands$Page" "kind" "I") ∈ gtb := gtb_mem 249 (by decide +kernel) rfl
theorem kw_200 : (Jvm.Cond.fieldLink "ManyHands$Page" (27 : Nat) "ManyHands$Page" "latest" "[LManyHands$Entry;") ∈ gtb := gtb_mem 250 (by decide +kernel) rfl
theorem kw_201 : (Jvm.Cond.fieldLink "ManyHands$Entry" (70 : Nat) "ManyHands$Page" "latest" "[LManyHands$Entry;") ∈ gtb := gtb_mem 251 (by decide +kernel) rfl
theorem kw_202 : (Jvm.Cond.fieldLink "ManyHands$Page" (12 : Nat) "ManyHands$Page" "known" "LManyHands$Reach;") ∈ gtb := gtb_mem 252 (by decide +kernel) rfl
theorem kw_203 : (Jvm.Cond.laysFinal "ManyHands$Page" "ManyHands$Page" "number" "I") ∈ gtb := gtb_mem 253 (by decide +kernel) rfl
theorem kw_205 : (Jvm.Cond.laysFinal "ManyHands$Page" "ManyHands$Page" "kind" "I") ∈ gtb := gtb_mem 255 (by decide +kernel) rfl
theorem kw_207 : (Jvm.Cond.laysFinal "ManyHands$Page" "ManyHands$Page" "latest" "[LManyHands$Entry;") ∈ gtb := gtb_mem 257 (by decide +kernel) rfl
theorem kw_209 : (Jvm.Cond.laysFinal "ManyHands$Page" "ManyHands$Page" "known" "LManyHands$Reach;") ∈ gtb := gtb_mem 259 (by decide +kernel) rfl
theorem kw_212 : (Jvm.Cond.methodLink "ManyHandsLaw" (23 : Nat) ({ cls := "ManyHands", name := "is", desc := "(II)I" } : Jvm.MethodName)) ∈ gtb := gtb_mem 262 (by decide +kernel) rfl
theorem kw_213 : (Jvm.Cond.instanceMethod ({ cls := "ManyHands", name := "is", desc := "(II)I" } : Jvm.MethodName)) ∈ gtb := gtb_mem 263 (by decide +kernel) rfl
theorem kw_214 : (Jvm.Cond.selects "ManyHands" ({ cls := "ManyHands", name := "is", desc := "(II)I" } : Jvm.MethodName) ({ cls := "ManyHands", name := "is", desc := "(II)I" } : Jvm.MethodName)) ∈ gtb := gtb_mem 264 (by decide +kernel) rfl
set_option maxRecDepth 20000 in
theorem kw_215 : (Jvm.Cond.code ({ cls := "ManyHands", name := "is", desc := "(II)I" } : Jvm.MethodName) prog_1_method_4_code (4 : Nat) (Option.some Jvm.ClassFile.FieldType.int)) ∈ gtb := gtb_mem 265 (by exact rfl) rfl
theorem kw_216 : (Jvm.Cond.methodLink "ManyHands" (63 : Nat) ({ cls := "ManyHands", name := "pageAt", desc := "(I)LManyHands$Page;" } : Jvm.MethodName)) ∈ gtb := gtb_mem 266 (by decide +kernel) rfl
theorem kw_218 : (Jvm.Cond.instanceMethod ({ cls := "ManyHands", name := "pageAt", desc := "(I)LManyHands$Page;" } : Jvm.MethodName)) ∈ gtb := gtb_mem 268 (by decide +kernel) rfl
set_option maxRecDepth 20000 in
theorem kw_219 : (Jvm.Cond.code ({ cls := "ManyHands", name := "pageAt", desc := "(I)LManyHands$Page;" } : Jvm.MethodName) prog_1_method_42_code (2 : Nat) (Option.some (Jvm.ClassFile.FieldType.object "ManyHands$Page"))) ∈ gtb := gtb_mem 269 (by exact rfl) rfl
theorem kw_220 : (Jvm.Cond.methodLink "ManyHands" (67 : Nat) ({ cls := "ManyHands$Page", name := "isUnder", desc := "(I)Z" } : Jvm.MethodName)) ∈ gtb := gtb_mem 270 (by decide +kernel) rfl
theorem kw_221 : (Jvm.Cond.instanceMethod ({ cls := "ManyHands$Page", name := "isUnder", desc := "(I)Z" } : Jvm.MethodName)) ∈ gtb := gtb_mem 271 (by decide +kernel) rfl
theorem kw_222 : (Jvm.Cond.selects "ManyHands$Page" ({ cls := "ManyHands$Page", name := "isUnder", desc := "(I)Z" } : Jvm.MethodName) ({ cls := "ManyHands$Page", name := "isUnder", desc := "(I)Z" } : Jvm.MethodName)) ∈ gtb := gtb_mem 272 (by decide +kernel) rfl
set_option maxRecDepth 20000 in
theorem kw_223 : (Jvm.Cond.code ({ cls := "ManyHands$Page", name := "isUnder", desc := "(I)Z" } : Jvm.MethodName) prog_5_method_2_code (2 : Nat) (Option.some Jvm.ClassFile.FieldType.boolean)) ∈ gtb := gtb_mem 273 (by exact rfl) rfl
theorem kw_226 : (Jvm.Cond.methodLink "ManyHands" (70 : Nat) ({ cls := "ManyHands", name := "oneIf", desc := "(Z)I" } : Jvm.MethodName)) ∈ gtb := gtb_mem 276 (by decide +kernel) rfl
theorem kw_227 : (Jvm.Cond.static ({ cls := "ManyHands", name := "oneIf", desc := "(Z)I" } : Jvm.MethodName)) ∈ gtb := gtb_mem 277 (by decide +kernel) rfl
set_option maxRecDepth 20000 in
theorem kw_228 : (Jvm.Cond.code ({ cls := "ManyHands", name := "oneIf", desc := "(Z)I" } : Jvm.MethodName) prog_1_method_47_code (1 : Nat) (Option.some Jvm.ClassFile.FieldType.int)) ∈ gtb := gtb_mem 278 (by exact rfl) rfl
theorem kw_229 : (Jvm.Cond.methodLink "ManyHandsLaw" (28 : Nat) ({ cls := "ManyHands", name := "keep", desc := "(IIZ)I" } : Jvm.MethodName)) ∈ gtb := gtb_mem 279 (by decide +kernel) rfl
theorem kw_230 : (Jvm.Cond.instanceMethod ({ cls := "ManyHands", name := "keep", desc := "(IIZ)I" } : Jvm.MethodName)) ∈ gtb := gtb_mem 280 (by decide +kernel) rfl
theorem kw_231 : (Jvm.Cond.selects "ManyHands" ({ cls := "ManyHands", name := "keep", desc := "(IIZ)I" } : Jvm.MethodName) ({ cls := "ManyHands", name := "keep", desc := "(IIZ)I" } : Jvm.MethodName)) ∈ gtb := gtb_mem 281 (by decide +kernel) rfl
set_option maxRecDepth 20000 in
theorem kw_232 : (Jvm.Cond.code ({ cls := "ManyHands", name := "keep", desc := "(IIZ)I" } : Jvm.MethodName) prog_1_method_5_code (7 : Nat) (Option.some Jvm.ClassFile.FieldType.int)) ∈ gtb := gtb_mem 282 (by exact rfl) rfl
theorem kw_233 : (Jvm.Cond.methodLink "ManyHands" (74 : Nat) ({ cls := "ManyHands", name := "handAt", desc := "(I)LManyHands$Hand;" } : Jvm.MethodName)) ∈ gtb := gtb_mem 283 (by decide +kernel) rfl
theorem kw_235 : (Jvm.Cond.instanceMethod ({ cls := "ManyHands", name := "handAt", desc := "(I)LManyHands$Hand;" } : Jvm.MethodName)) ∈ gtb := gtb_mem 285 (by decide +kernel) rfl
set_option maxRecDepth 20000 in
theorem kw_236 : (Jvm.Cond.code ({ cls := "ManyHands", name := "handAt", desc := "(I)LManyHands$Hand;" } : Jvm.MethodName) prog_1_method_41_code (2 : Nat) (Option.some (Jvm.ClassFile.FieldType.object "ManyHands$Hand"))) ∈ gtb := gtb_mem 286 (by exact rfl) rfl
theorem kw_237 : (Jvm.Cond.methodLink "ManyHandsLaw" (35 : Nat) ({ cls := "ManyHands", name := "write", desc := "(IIJ)I" } : Jvm.MethodName)) ∈ gtb := gtb_mem 287 (by decide +kernel) rfl
theorem kw_238 : (Jvm.Cond.instanceMethod ({ cls := "ManyHands", name := "write", desc := "(IIJ)I" } : Jvm.MethodName)) ∈ gtb := gtb_mem 288 (by decide +kernel) rfl
theorem kw_239 : (Jvm.Cond.selects "ManyHands" ({ cls := "ManyHands", name := "write", desc := "(IIJ)I" } : Jvm.MethodName) ({ cls := "ManyHands", name := "write", desc := "(IIJ)I" } : Jvm.MethodName)) ∈ gtb := gtb_mem 289 (by decide +kernel) rfl
set_option maxRecDepth 20000 in
theorem kw_240 : (Jvm.Cond.code ({ cls := "ManyHands", name := "write", desc := "(IIJ)I" } : Jvm.MethodName) prog_1_method_6_code (8 : Nat) (Option.some Jvm.ClassFile.FieldType.int)) ∈ gtb := gtb_mem 290 (by exact rfl) rfl
theorem kw_241 : (Jvm.Cond.methodLink "ManyHands" (85 : Nat) ({ cls := "ManyHands", name := "refusalToChange", desc := "(LManyHands$Hand;LManyHands$Page;I)I" } : Jvm.MethodName)) ∈ gtb := gtb_mem 291 (by decide +kernel) rfl
theorem kw_243 : (Jvm.Cond.instanceMethod ({ cls := "ManyHands", name := "refusalToChange", desc := "(LManyHands$Hand;LManyHands$Page;I)I" } : Jvm.MethodName)) ∈ gtb := gtb_mem 293 (by decide +kernel) rfl
set_option maxRecDepth 20000 in
theorem kw_244 : (Jvm.Cond.code ({ cls := "ManyHands", name := "refusalToChange", desc := "(LManyHands$Hand;LManyHands$Page;I)I" } : Jvm.MethodName) prog_1_method_52_code (4 : Nat) (Option.some Jvm.ClassFile.FieldType.int)) ∈ gtb := gtb_mem 294 (by exact rfl) rfl
theorem kw_245 : (Jvm.Cond.methodLink "ManyHands" (259 : Nat) ({ cls := "java/util/ArrayList", name := "size", desc := "()I" } : Jvm.MethodName)) ∈ gtb := gtb_mem 295 (by decide +kernel) rfl
theorem kw_246 : (Jvm.Cond.instanceMethod ({ cls := "java/util/ArrayList", name := "size", desc := "()I" } : Jvm.MethodName)) ∈ gtb := gtb_mem 296 (by decide +kernel) rfl
theorem kw_247 : (Jvm.Cond.selects "java/util/ArrayList" ({ cls := "java/util/ArrayList", name := "size", desc := "()I" } : Jvm.MethodName) ({ cls := "java/util/ArrayList", name := "size", desc := "()I" } : Jvm.MethodName)) ∈ gtb := gtb_mem 297 (by decide +kernel) rfl
set_option maxRecDepth 20000 in
theorem kw_248 : (Jvm.Cond.code ({ cls := "java/util/ArrayList", name := "size", desc := "()I" } : Jvm.MethodName) prog_17_method_8_code (1 : Nat) (Option.some Jvm.ClassFile.FieldType.int)) ∈ gtb := gtb_mem 298 (by exact rfl) rfl
theorem kw_249 : (Jvm.Cond.methodLink "ManyHands" (282 : Nat) ({ cls := "ManyHands$Hand", name := "hasAllOwn", desc := "()Z" } : Jvm.MethodName)) ∈ gtb := gtb_mem 299 (by decide +kernel) rfl
theorem kw_250 : (Jvm.Cond.instanceMethod ({ cls := "ManyHands$Hand", name := "hasAllOwn", desc := "()Z" } : Jvm.MethodName)) ∈ gtb := gtb_mem 300 (by decide +kernel) rfl
theorem kw_251 : (Jvm.Cond.selects "ManyHands$Hand" ({ cls := "ManyHands$Hand", name := "hasAllOwn", desc := "()Z" } : Jvm.MethodName) ({ cls := "ManyHands$Hand", name := "hasAllOwn", desc := "()Z" } : Jvm.MethodName)) ∈ gtb := gtb_mem 301 (by decide +kernel) rfl
set_option maxRecDepth 20000 in
theorem kw_252 : (Jvm.Cond.code ({ cls := "ManyHands$Hand", name := "hasAllOwn", desc := "()Z" } : Jvm.MethodName) prog_3_method_2_code (1 : Nat) (Option.some Jvm.ClassFile.FieldType.boolean)) ∈ gtb := gtb_mem 302 (by exact rfl) rfl
theorem kw_253 : (Jvm.Cond.methodLink "ManyHands$Hand" (47 : Nat) ({ cls := "java/util/ArrayList", name := "size", desc := "()I" } : Jvm.MethodName)) ∈ gtb := gtb_mem 303 (by decide +kernel) rfl
theorem kw_254 : (Jvm.Cond.methodLink "ManyHands" (176 : Nat) ({ cls := "ManyHands", name := "refusalToSee", desc := "(LManyHands$Hand;LManyHands$Page;I)I" } : Jvm.MethodName)) ∈ gtb := gtb_mem 304 (by decide +kernel) rfl
theorem kw_256 : (Jvm.Cond.instanceMethod ({ cls := "ManyHands", name := "refusalToSee", desc := "(LManyHands$Hand;LManyHands$Page;I)I" } : Jvm.MethodName)) ∈ gtb := gtb_mem 306 (by decide +kernel) rfl
set_option maxRecDepth 20000 in
theorem kw_257 : (Jvm.Cond.code ({ cls := "ManyHands", name := "refusalToSee", desc := "(LManyHands$Hand;LManyHands$Page;I)I" } : Jvm.MethodName) prog_1_method_51_code (4 : Nat) (Option.some Jvm.ClassFile.FieldType.int)) ∈ gtb := gtb_mem 307 (by exact rfl) rfl
theorem kw_258 : (Jvm.Cond.methodLink "ManyHands" (100 : Nat) ({ cls := "ManyHands", name := "found", desc := "(I)I" } : Jvm.MethodName)) ∈ gtb := gtb_mem 308 (by decide +kernel) rfl
theorem kw_260 : (Jvm.Cond.instanceMethod ({ cls := "ManyHands", name := "found", desc := "(I)I" } : Jvm.MethodName)) ∈ gtb := gtb_mem 310 (by decide +kernel) rfl
set_option maxRecDepth 20000 in
theorem kw_261 : (Jvm.Cond.code ({ cls := "ManyHands", name := "found", desc := "(I)I" } : Jvm.MethodName) prog_1_method_49_code (2 : Nat) (Option.some Jvm.ClassFile.FieldType.int)) ∈ gtb := gtb_mem 311 (by exact rfl) rfl
theorem kw_262 : (Jvm.Cond.methodLink "ManyHands" (89 : Nat) ({ cls := "ManyHands", name := "make", desc := "(LManyHands$Hand;LManyHands$Page;IIJ)I" } : Jvm.MethodName)) ∈ gtb := gtb_mem 312 (by decide +kernel) rfl
theorem kw_264 : (Jvm.Cond.instanceMethod ({ cls := "ManyHands", name := "make", desc := "(LManyHands$Hand;LManyHands$Page;IIJ)I" } : Jvm.MethodName)) ∈ gtb := gtb_mem 314 (by decide +kernel) rfl
set_option maxRecDepth 20000 in
theorem kw_265 : (Jvm.Cond.code ({ cls := "ManyHands", name := "make", desc := "(LManyHands$Hand;LManyHands$Page;IIJ)I" } : Jvm.MethodName) prog_1_method_55_code (8 : Nat) (Option.some Jvm.ClassFile.FieldType.int)) ∈ gtb := gtb_mem 315 (by exact rfl) rfl
theorem kw_266 : (Jvm.Cond.classLink "ManyHands" (123 : Nat) "ManyHands$Entry") ∈ gtb := gtb_mem 316 (by decide +kernel) rfl
theorem kw_267 : (Jvm.Cond.instantiable "ManyHands$Entry" (10 : Nat)) ∈ gtb := gtb_mem 317 (by decide +kernel) rfl
theorem kw_268 : (Jvm.Cond.methodLink "ManyHands" (289 : Nat) ({ cls := "ManyHands$Entry", name := "<init>", desc := "(ILManyHands$Hand;LManyHands$Page;IIJ)V" } : Jvm.MethodName)) ∈ gtb := gtb_mem 318 (by decide +kernel) rfl
theorem kw_269 : (Jvm.Cond.instanceMethod ({ cls := "ManyHands$Entry", name := "<init>", desc := "(ILManyHands$Hand;LManyHands$Page;IIJ)V" } : Jvm.MethodName)) ∈ gtb := gtb_mem 319 (by decide +kernel) rfl
set_option maxRecDepth 20000 in
theorem kw_270 : (Jvm.Cond.code ({ cls := "ManyHands$Entry", name := "<init>", desc := "(ILManyHands$Hand;LManyHands$Page;IIJ)V" } : Jvm.MethodName) prog_2_method_1_code (8 : Nat) (Option.none : Option Jvm.ClassFile.FieldType)) ∈ gtb := gtb_mem 320 (by exact rfl) rfl
theorem kw_271 : (Jvm.Cond.methodLink "ManyHands$Entry" (3 : Nat) ({ cls := "java/lang/Object", name := "<init>", desc := "()V" } : Jvm.MethodName)) ∈ gtb := gtb_mem 321 (by decide +kernel) rfl
theorem kw_272 : (Jvm.Cond.classLink "ManyHands$Entry" (9 : Nat) "ManyHands$Reach") ∈ gtb := gtb_mem 322 (by decide +kernel) rfl
theorem kw_274 : (Jvm.Cond.methodLink "ManyHands$Entry" (54 : Nat) ({ cls := "java/util/ArrayList", name := "size", desc := "()I" } : Jvm.MethodName)) ∈ gtb := gtb_mem 324 (by decide +kernel) rfl
theorem kw_275 : (Jvm.Cond.methodLink "ManyHands$Entry" (66 : Nat) ({ cls := "ManyHands$Reach", name := "widen", desc := "(LManyHands$Reach;)V" } : Jvm.MethodName)) ∈ gtb := gtb_mem 325 (by decide +kernel) rfl
theorem kw_276 : (Jvm.Cond.instanceMethod ({ cls := "ManyHands$Reach", name := "widen", desc := "(LManyHands$Reach;)V" } : Jvm.MethodName)) ∈ gtb := gtb_mem 326 (by decide +kernel) rfl
theorem kw_277 : (Jvm.Cond.selects "ManyHands$Reach" ({ cls := "ManyHands$Reach", name := "widen", desc := "(LManyHands$Reach;)V" } : Jvm.MethodName) ({ cls := "ManyHands$Reach", name := "widen", desc := "(LManyHands$Reach;)V" } : Jvm.MethodName)) ∈ gtb := gtb_mem 327 (by decide +kernel) rfl
set_option maxRecDepth 20000 in
theorem kw_278 : (Jvm.Cond.code ({ cls := "ManyHands$Reach", name := "widen", desc := "(LManyHands$Reach;)V" } : Jvm.MethodName) prog_6_method_4_code (3 : Nat) (Option.none : Option Jvm.ClassFile.FieldType)) ∈ gtb := gtb_mem 328 (by exact rfl) rfl
theorem kw_279 : (Jvm.Cond.methodLink "ManyHands$Entry" (74 : Nat) ({ cls := "ManyHands$Page", name := "shelfOf", desc := "(I)I" } : Jvm.MethodName)) ∈ gtb := gtb_mem 329 (by decide +kernel) rfl
theorem kw_280 : (Jvm.Cond.instanceMethod ({ cls := "ManyHands$Page", name := "shelfOf", desc := "(I)I" } : Jvm.MethodName)) ∈ gtb := gtb_mem 330 (by decide +kernel) rfl
theorem kw_281 : (Jvm.Cond.selects "ManyHands$Page" ({ cls := "ManyHands$Page", name := "shelfOf", desc := "(I)I" } : Jvm.MethodName) ({ cls := "ManyHands$Page", name := "shelfOf", desc := "(I)I" } : Jvm.MethodName)) ∈ gtb := gtb_mem 331 (by decide +kernel) rfl
set_option maxRecDepth 20000 in
theorem kw_282 : (Jvm.Cond.code ({ cls := "ManyHands$Page", name := "shelfOf", desc := "(I)I" } : Jvm.MethodName) prog_5_method_3_code (2 : Nat) (Option.some Jvm.ClassFile.FieldType.int)) ∈ gtb := gtb_mem 332 (by exact rfl) rfl
theorem kw_283 : (Jvm.Cond.fieldLink "ManyHands$Entry" (18 : Nat) "ManyHands$Entry" "number" "I") ∈ gtb := gtb_mem 333 (by decide +kernel) rfl
theorem kw_284 : (Jvm.Cond.fieldLink "ManyHands$Page" (125 : Nat) "ManyHands$Entry" "number" "I") ∈ gtb := gtb_mem 334 (by decide +kernel) rfl
theorem kw_285 : (Jvm.Cond.fieldLink "ManyHands" (187 : Nat) "ManyHands$Entry" "number" "I") ∈ gtb := gtb_mem 335 (by decide +kernel) rfl
theorem kw_286 : (Jvm.Cond.fieldLink "ManyHands$Entry" (25 : Nat) "ManyHands$Entry" "maker" "I") ∈ gtb := gtb_mem 336 (by decide +kernel) rfl
theorem kw_287 : (Jvm.Cond.fieldLink "ManyHands$Reach" (21 : Nat) "ManyHands$Entry" "maker" "I") ∈ gtb := gtb_mem 337 (by decide +kernel) rfl
theorem kw_288 : (Jvm.Cond.fieldLink "ManyHands$Hand" (57 : Nat) "ManyHands$Entry" "maker" "I") ∈ gtb := gtb_mem 338 (by decide +kernel) rfl
theorem kw_289 : (Jvm.Cond.fieldLink "ManyHands" (122 : Nat) "ManyHands$Entry" "maker" "I") ∈ gtb := gtb_mem 339 (by decide +kernel) rfl
theorem kw_290 : (Jvm.Cond.fieldLink "ManyHands$Entry" (31 : Nat) "ManyHands$Entry" "page" "I") ∈ gtb := gtb_mem 340 (by decide +kernel) rfl
theorem kw_291 : (Jvm.Cond.fieldLink "ManyHands" (127 : Nat) "ManyHands$Entry" "page" "I") ∈ gtb := gtb_mem 341 (by decide +kernel) rfl
theorem kw_292 : (Jvm.Cond.fieldLink "ManyHands$Entry" (34 : Nat) "ManyHands$Entry" "act" "I") ∈ gtb := gtb_mem 342 (by decide +kernel) rfl
theorem kw_293 : (Jvm.Cond.fieldLink "ManyHands$Page" (53 : Nat) "ManyHands$Entry" "act" "I") ∈ gtb := gtb_mem 343 (by decide +kernel) rfl
theorem kw_294 : (Jvm.Cond.fieldLink "ManyHands$Entry" (37 : Nat) "ManyHands$Entry" "x" "I") ∈ gtb := gtb_mem 344 (by decide +kernel) rfl
theorem kw_295 : (Jvm.Cond.fieldLink "ManyHands$Page" (35 : Nat) "ManyHands$Entry" "x" "I") ∈ gtb := gtb_mem 345 (by decide +kernel) rfl
theorem kw_296 : (Jvm.Cond.fieldLink "ManyHands$Entry" (40 : Nat) "ManyHands$Entry" "v" "J") ∈ gtb := gtb_mem 346 (by decide +kernel) rfl
theorem kw_297 : (Jvm.Cond.fieldLink "ManyHands$Page" (126 : Nat) "ManyHands$Entry" "v" "J") ∈ gtb := gtb_mem 347 (by decide +kernel) rfl
theorem kw_298 : (Jvm.Cond.fieldLink "ManyHands" (183 : Nat) "ManyHands$Entry" "v" "J") ∈ gtb := gtb_mem 348 (by decide +kernel) rfl
theorem kw_299 : (Jvm.Cond.fieldLink "ManyHands$Entry" (47 : Nat) "ManyHands$Entry" "stampCount" "I") ∈ gtb := gtb_mem 349 (by decide +kernel) rfl
theorem kw_300 : (Jvm.Cond.fieldLink "ManyHands$Hand" (66 : Nat) "ManyHands$Entry" "stampCount" "I") ∈ gtb := gtb_mem 350 (by decide +kernel) rfl
theorem kw_301 : (Jvm.Cond.fieldLink "ManyHands" (130 : Nat) "ManyHands$Entry" "stampCount" "I") ∈ gtb := gtb_mem 351 (by decide +kernel) rfl
theorem kw_302 : (Jvm.Cond.fieldLink "ManyHands$Entry" (60 : Nat) "ManyHands$Entry" "order" "I") ∈ gtb := gtb_mem 352 (by decide +kernel) rfl
theorem kw_303 : (Jvm.Cond.fieldLink "ManyHands$Reach" (15 : Nat) "ManyHands$Entry" "order" "I") ∈ gtb := gtb_mem 353 (by decide +kernel) rfl
theorem kw_304 : (Jvm.Cond.fieldLink "ManyHands$Hand" (60 : Nat) "ManyHands$Entry" "order" "I") ∈ gtb := gtb_mem 354 (by decide +kernel) rfl
theorem kw_305 : (Jvm.Cond.fieldLink "ManyHands$Entry" (12 : Nat) "ManyHands$Entry" "known" "LManyHands$Reach;") ∈ gtb := gtb_mem 355 (by decide +kernel) rfl
theorem kw_306 : (Jvm.Cond.fieldLink "ManyHands$Hand" (93 : Nat) "ManyHands$Entry" "known" "LManyHands$Reach;") ∈ gtb := gtb_mem 356 (by decide +kernel) rfl
theorem kw_307 : (Jvm.Cond.fieldLink "ManyHands$Page" (67 : Nat) "ManyHands$Entry" "known" "LManyHands$Reach;") ∈ gtb := gtb_mem 357 (by decide +kernel) rfl
theorem kw_308 : (Jvm.Cond.fieldLink "ManyHands" (133 : Nat) "ManyHands$Entry" "known" "LManyHands$Reach;") ∈ gtb := gtb_mem 358 (by decide +kernel) rfl
theorem kw_309 : (Jvm.Cond.fieldLink "ManyHands$Entry" (78 : Nat) "ManyHands$Entry" "earlier" "LManyHands$Entry;") ∈ gtb := gtb_mem 359 (by decide +kernel) rfl
theorem kw_310 : (Jvm.Cond.fieldLink "ManyHands$Page" (49 : Nat) "ManyHands$Entry" "earlier" "LManyHands$Entry;") ∈ gtb := gtb_mem 360 (by decide +kernel) rfl
theorem kw_311 : (Jvm.Cond.laysFinal "ManyHands$Entry" "ManyHands$Entry" "number" "I") ∈ gtb := gtb_mem 361 (by decide +kernel) rfl
theorem kw_313 : (Jvm.Cond.laysFinal "ManyHands$Entry" "ManyHands$Entry" "maker" "I") ∈ gtb := gtb_mem 363 (by decide +kernel) rfl
theorem kw_315 : (Jvm.Cond.laysFinal "ManyHands$Entry" "ManyHands$Entry" "page" "I") ∈ gtb := gtb_mem 365 (by decide +kernel) rfl
theorem kw_317 : (Jvm.Cond.laysFinal "ManyHands$Entry" "ManyHands$Entry" "act" "I") ∈ gtb := gtb_mem 367 (by decide +kernel) rfl
theorem kw_319 : (Jvm.Cond.laysFinal "ManyHands$Entry" "ManyHands$Entry" "x" "I") ∈ gtb := gtb_mem 369 (by decide +kernel) rfl
theorem kw_321 : (Jvm.Cond.laysFinal "ManyHands$Entry" "ManyHands$Entry" "v" "J") ∈ gtb := gtb_mem 371 (by decide +kernel) rfl
theorem kw_323 : (Jvm.Cond.laysFinal "ManyHands$Entry" "ManyHands$Entry" "stampCount" "I") ∈ gtb := gtb_mem 373 (by decide +kernel) rfl
theorem kw_325 : (Jvm.Cond.laysFinal "ManyHands$Entry" "ManyHands$Entry" "order" "I") ∈ gtb := gtb_mem 375 (by decide +kernel) rfl
theorem kw_327 : (Jvm.Cond.laysFinal "ManyHands$Entry" "ManyHands$Entry" "known" "LManyHands$Reach;") ∈ gtb := gtb_mem 377 (by decide +kernel) rfl
theorem kw_329 : (Jvm.Cond.laysFinal "ManyHands$Entry" "ManyHands$Entry" "earlier" "LManyHands$Entry;") ∈ gtb := gtb_mem 379 (by decide +kernel) rfl
theorem kw_332 : (Jvm.Cond.methodLink "ManyHands" (292 : Nat) ({ cls := "java/util/ArrayList", name := "add", desc := "(Ljava/lang/Object;)Z" } : Jvm.MethodName)) ∈ gtb := gtb_mem 382 (by decide +kernel) rfl
theorem kw_333 : (Jvm.Cond.instanceMethod ({ cls := "java/util/ArrayList", name := "add", desc := "(Ljava/lang/Object;)Z" } : Jvm.MethodName)) ∈ gtb := gtb_mem 383 (by decide +kernel) rfl
theorem kw_334 : (Jvm.Cond.selects "java/util/ArrayList" ({ cls := "java/util/ArrayList", name := "add", desc := "(Ljava/lang/Object;)Z" } : Jvm.MethodName) ({ cls := "java/util/ArrayList", name := "add", desc := "(Ljava/lang/Object;)Z" } : Jvm.MethodName)) ∈ gtb := gtb_mem 384 (by decide +kernel) rfl
set_option maxRecDepth 20000 in
theorem kw_335 : (Jvm.Cond.code ({ cls := "java/util/ArrayList", name := "add", desc := "(Ljava/lang/Object;)Z" } : Jvm.MethodName) prog_17_method_25_code (2 : Nat) (Option.some Jvm.ClassFile.FieldType.boolean)) ∈ gtb := gtb_mem 385 (by exact rfl) rfl
theorem kw_336 : (Jvm.Cond.methodLink "java/util/ArrayList" (131 : Nat) ({ cls := "java/util/ArrayList", name := "add", desc := "(Ljava/lang/Object;[Ljava/lang/Object;I)V" } : Jvm.MethodName)) ∈ gtb := gtb_mem 386 (by decide +kernel) rfl
theorem kw_338 : (Jvm.Cond.instanceMethod ({ cls := "java/util/ArrayList", name := "add", desc := "(Ljava/lang/Object;[Ljava/lang/Object;I)V" } : Jvm.MethodName)) ∈ gtb := gtb_mem 388 (by decide +kernel) rfl
set_option maxRecDepth 20000 in
theorem kw_339 : (Jvm.Cond.code ({ cls := "java/util/ArrayList", name := "add", desc := "(Ljava/lang/Object;[Ljava/lang/Object;I)V" } : Jvm.MethodName) prog_17_method_24_code (4 : Nat) (Option.none : Option Jvm.ClassFile.FieldType)) ∈ gtb := gtb_mem 389 (by exact rfl) rfl
theorem kw_340 : (Jvm.Cond.methodLink "java/util/ArrayList" (129 : Nat) ({ cls := "java/util/ArrayList", name := "grow", desc := "()[Ljava/lang/Object;" } : Jvm.MethodName)) ∈ gtb := gtb_mem 390 (by decide +kernel) rfl
theorem kw_342 : (Jvm.Cond.instanceMethod ({ cls := "java/util/ArrayList", name := "grow", desc := "()[Ljava/lang/Object;" } : Jvm.MethodName)) ∈ gtb := gtb_mem 392 (by decide +kernel) rfl
set_option maxRecDepth 20000 in
theorem kw_343 : (Jvm.Cond.code ({ cls := "java/util/ArrayList", name := "grow", desc := "()[Ljava/lang/Object;" } : Jvm.MethodName) prog_17_method_7_code (1 : Nat) (Option.some (Jvm.ClassFile.FieldType.array (Jvm.ClassFile.FieldType.object "java/lang/Object")))) ∈ gtb := gtb_mem 393 (by exact rfl) rfl
theorem kw_344 : (Jvm.Cond.methodLink "java/util/ArrayList" (69 : Nat) ({ cls := "java/util/ArrayList", name := "grow", desc := "(I)[Ljava/lang/Object;" } : Jvm.MethodName)) ∈ gtb := gtb_mem 394 (by decide +kernel) rfl
theorem kw_346 : (Jvm.Cond.instanceMethod ({ cls := "java/util/ArrayList", name := "grow", desc := "(I)[Ljava/lang/Object;" } : Jvm.MethodName)) ∈ gtb := gtb_mem 396 (by decide +kernel) rfl
set_option maxRecDepth 20000 in
theorem kw_347 : (Jvm.Cond.code ({ cls := "java/util/ArrayList", name := "grow", desc := "(I)[Ljava/lang/Object;" } : Jvm.MethodName) prog_17_method_6_code (4 : Nat) (Option.some (Jvm.ClassFile.FieldType.array (Jvm.ClassFile.FieldType.object "java/lang/Object")))) ∈ gtb := gtb_mem 397 (by exact rfl) rfl
theorem kw_348 : (Jvm.Cond.methodLink "java/util/ArrayList" (73 : Nat) ({ cls := "jdk/internal/util/ArraysSupport", name := "newLength", desc := "(III)I" } : Jvm.MethodName)) ∈ gtb := gtb_mem 398 (by decide +kernel) rfl
theorem kw_349 : (Jvm.Cond.static ({ cls := "jdk/internal/util/ArraysSupport", name := "newLength", desc := "(III)I" } : Jvm.MethodName)) ∈ gtb := gtb_mem 399 (by decide +kernel) rfl
set_option maxRecDepth 20000 in
theorem kw_350 : (Jvm.Cond.code ({ cls := "jdk/internal/util/ArraysSupport", name := "newLength", desc := "(III)I" } : Jvm.MethodName) prog_24_method_27_code (4 : Nat) (Option.some Jvm.ClassFile.FieldType.int)) ∈ gtb := gtb_mem 400 (by exact rfl) rfl
theorem kw_351 : (Jvm.Cond.methodLink "jdk/internal/util/ArraysSupport" (194 : Nat) ({ cls := "java/lang/Math", name := "max", desc := "(II)I" } : Jvm.MethodName)) ∈ gtb := gtb_mem 401 (by decide +kernel) rfl
theorem kw_352 : (Jvm.Cond.static ({ cls := "java/lang/Math", name := "max", desc := "(II)I" } : Jvm.MethodName)) ∈ gtb := gtb_mem 402 (by decide +kernel) rfl
set_option maxRecDepth 20000 in
theorem kw_353 : (Jvm.Cond.code ({ cls := "java/lang/Math", name := "max", desc := "(II)I" } : Jvm.MethodName) prog_13_method_65_code (2 : Nat) (Option.some Jvm.ClassFile.FieldType.int)) ∈ gtb := gtb_mem 403 (by exact rfl) rfl
theorem kw_354 : (Jvm.Cond.constant "jdk/internal/util/ArraysSupport" (200 : Nat) (2147483639 : Int32)) ∈ gtb := gtb_mem 404 (by decide +kernel) rfl
theorem kw_355 : (Jvm.Cond.methodLink "jdk/internal/util/ArraysSupport" (201 : Nat) ({ cls := "jdk/internal/util/ArraysSupport", name := "hugeLength", desc := "(II)I" } : Jvm.MethodName)) ∈ gtb := gtb_mem 405 (by decide +kernel) rfl
theorem kw_356 : (Jvm.Cond.static ({ cls := "jdk/internal/util/ArraysSupport", name := "hugeLength", desc := "(II)I" } : Jvm.MethodName)) ∈ gtb := gtb_mem 406 (by decide +kernel) rfl
set_option maxRecDepth 20000 in
theorem kw_357 : (Jvm.Cond.code ({ cls := "jdk/internal/util/ArraysSupport", name := "hugeLength", desc := "(II)I" } : Jvm.MethodName) prog_24_method_28_code (3 : Nat) (Option.some Jvm.ClassFile.FieldType.int)) ∈ gtb := gtb_mem 407 (by exact rfl) rfl
theorem kw_358 : (Jvm.Cond.methodLink "java/util/ArrayList" (66 : Nat) ({ cls := "java/util/Arrays", name := "copyOf", desc := "([Ljava/lang/Object;I)[Ljava/lang/Object;" } : Jvm.MethodName)) ∈ gtb := gtb_mem 408 (by decide +kernel) rfl
theorem kw_359 : (Jvm.Cond.static ({ cls := "java/util/Arrays", name := "copyOf", desc := "([Ljava/lang/Object;I)[Ljava/lang/Object;" } : Jvm.MethodName)) ∈ gtb := gtb_mem 409 (by decide +kernel) rfl
set_option maxRecDepth 20000 in
theorem kw_360 : (Jvm.Cond.code ({ cls := "java/util/Arrays", name := "copyOf", desc := "([Ljava/lang/Object;I)[Ljava/lang/Object;" } : Jvm.MethodName) prog_18_method_119_code (2 : Nat) (Option.some (Jvm.ClassFile.FieldType.array (Jvm.ClassFile.FieldType.object "java/lang/Object")))) ∈ gtb := gtb_mem 410 (by exact rfl) rfl
theorem kw_361 : (Jvm.Cond.methodLink "java/util/Arrays" (86 : Nat) ({ cls := "java/lang/Object", name := "getClass", desc := "()Ljava/lang/Class;" } : Jvm.MethodName)) ∈ gtb := gtb_mem 411 (by decide +kernel) rfl
theorem kw_362 : (Jvm.Cond.instanceMethod ({ cls := "java/lang/Object", name := "getClass", desc := "()Ljava/lang/Class;" } : Jvm.MethodName)) ∈ gtb := gtb_mem 412 (by decide +kernel) rfl
theorem kw_363 : (Jvm.Cond.sameMethod "java/lang/Object" "java/lang/Object" "getClass" "()Ljava/lang/Class;") ∈ gtb := gtb_mem 413 (by decide +kernel) rfl
theorem kw_364 : (Jvm.Cond.selects "ManyHands" ({ cls := "java/lang/Object", name := "getClass", desc := "()Ljava/lang/Class;" } : Jvm.MethodName) ({ cls := "java/lang/Object", name := "getClass", desc := "()Ljava/lang/Class;" } : Jvm.MethodName)) ∈ gtb := gtb_mem 414 (by decide +kernel) rfl
theorem kw_365 : (Jvm.Cond.selects "ManyHands$Entry" ({ cls := "java/lang/Object", name := "getClass", desc := "()Ljava/lang/Class;" } : Jvm.MethodName) ({ cls := "java/lang/Object", name := "getClass", desc := "()Ljava/lang/Class;" } : Jvm.MethodName)) ∈ gtb := gtb_mem 415 (by decide +kernel) rfl
theorem kw_366 : (Jvm.Cond.selects "ManyHands$Hand" ({ cls := "java/lang/Object", name := "getClass", desc := "()Ljava/lang/Class;" } : Jvm.MethodName) ({ cls := "java/lang/Object", name := "getClass", desc := "()Ljava/lang/Class;" } : Jvm.MethodName)) ∈ gtb := gtb_mem 416 (by decide +kernel) rfl
theorem kw_367 : (Jvm.Cond.selects "ManyHands$LeafRow" ({ cls := "java/lang/Object", name := "getClass", desc := "()Ljava/lang/Class;" } : Jvm.MethodName) ({ cls := "java/lang/Object", name := "getClass", desc := "()Ljava/lang/Class;" } : Jvm.MethodName)) ∈ gtb := gtb_mem 417 (by decide +kernel) rfl
theorem kw_368 : (Jvm.Cond.selects "ManyHands$Page" ({ cls := "java/lang/Object", name := "getClass", desc := "()Ljava/lang/Class;" } : Jvm.MethodName) ({ cls := "java/lang/Object", name := "getClass", desc := "()Ljava/lang/Class;" } : Jvm.MethodName)) ∈ gtb := gtb_mem 418 (by decide +kernel) rfl
theorem kw_369 : (Jvm.Cond.selects "ManyHands$Reach" ({ cls := "java/lang/Object", name := "getClass", desc := "()Ljava/lang/Class;" } : Jvm.MethodName) ({ cls := "java/lang/Object", name := "getClass", desc := "()Ljava/lang/Class;" } : Jvm.MethodName)) ∈ gtb := gtb_mem 419 (by decide +kernel) rfl
theorem kw_370 : (Jvm.Cond.selects "ManyHands$Telling" ({ cls := "java/lang/Object", name := "getClass", desc := "()Ljava/lang/Class;" } : Jvm.MethodName) ({ cls := "java/lang/Object", name := "getClass", desc := "()Ljava/lang/Class;" } : Jvm.MethodName)) ∈ gtb := gtb_mem 420 (by decide +kernel) rfl
theorem kw_371 : (Jvm.Cond.selects "ManyHandsModel" ({ cls := "java/lang/Object", name := "getClass", desc := "()Ljava/lang/Class;" } : Jvm.MethodName) ({ cls := "java/lang/Object", name := "getClass", desc := "()Ljava/lang/Class;" } : Jvm.MethodName)) ∈ gtb := gtb_mem 421 (by decide +kernel) rfl
theorem kw_372 : (Jvm.Cond.selects "java/util/ArrayList" ({ cls := "java/lang/Object", name := "getClass", desc := "()Ljava/lang/Class;" } : Jvm.MethodName) ({ cls := "java/lang/Object", name := "getClass", desc := "()Ljava/lang/Class;" } : Jvm.MethodName)) ∈ gtb := gtb_mem 422 (by decide +kernel) rfl
theorem kw_373 : (Jvm.Cond.native ({ cls := "java/lang/Object", name := "getClass", desc := "()Ljava/lang/Class;" } : Jvm.MethodName)) ∈ gtb := gtb_mem 423 (by decide +kernel) rfl
theorem kw_374 : (Jvm.Cond.methodLink "java/util/Arrays" (300 : Nat) ({ cls := "java/util/Arrays", name := "copyOf", desc := "([Ljava/lang/Object;ILjava/lang/Class;)[Ljava/lang/Object;" } : Jvm.MethodName)) ∈ gtb := gtb_mem 424 (by decide +kernel) rfl
theorem kw_375 : (Jvm.Cond.static ({ cls := "java/util/Arrays", name := "copyOf", desc := "([Ljava/lang/Object;ILjava/lang/Class;)[Ljava/lang/Object;" } : Jvm.MethodName)) ∈ gtb := gtb_mem 425 (by decide +kernel) rfl
set_option maxRecDepth 20000 in
theorem kw_376 : (Jvm.Cond.code ({ cls := "java/util/Arrays", name := "copyOf", desc := "([Ljava/lang/Object;ILjava/lang/Class;)[Ljava/lang/Object;" } : Jvm.MethodName) prog_18_method_120_code (4 : Nat) (Option.some (Jvm.ClassFile.FieldType.array (Jvm.ClassFile.FieldType.object "java/lang/Object")))) ∈ gtb := gtb_mem 426 (by exact rfl) rfl
theorem kw_377 : (Jvm.Cond.classLink "java/util/Arrays" (110 : Nat) "[Ljava/lang/Object;") ∈ gtb := gtb_mem 427 (by decide +kernel) rfl
theorem kw_379 : (Jvm.Cond.classLink "java/util/Arrays" (2 : Nat) "java/lang/Object") ∈ gtb := gtb_mem 429 (by decide +kernel) rfl
theorem kw_380 : (Jvm.Cond.methodLink "java/util/Arrays" (304 : Nat) ({ cls := "java/lang/Math", name := "min", desc := "(II)I" } : Jvm.MethodName)) ∈ gtb := gtb_mem 430 (by decide +kernel) rfl
theorem kw_381 : (Jvm.Cond.static ({ cls := "java/lang/Math", name := "min", desc := "(II)I" } : Jvm.MethodName)) ∈ gtb := gtb_mem 431 (by decide +kernel) rfl
set_option maxRecDepth 20000 in
theorem kw_382 : (Jvm.Cond.code ({ cls := "java/lang/Math", name := "min", desc := "(II)I" } : Jvm.MethodName) prog_13_method_69_code (2 : Nat) (Option.some Jvm.ClassFile.FieldType.int)) ∈ gtb := gtb_mem 432 (by exact rfl) rfl
theorem kw_383 : (Jvm.Cond.methodLink "java/util/Arrays" (150 : Nat) ({ cls := "java/lang/System", name := "arraycopy", desc := "(Ljava/lang/Object;ILjava/lang/Object;II)V" } : Jvm.MethodName)) ∈ gtb := gtb_mem 433 (by decide +kernel) rfl
theorem kw_384 : (Jvm.Cond.static ({ cls := "java/lang/System", name := "arraycopy", desc := "(Ljava/lang/Object;ILjava/lang/Object;II)V" } : Jvm.MethodName)) ∈ gtb := gtb_mem 434 (by decide +kernel) rfl
theorem kw_385 : (Jvm.Cond.native ({ cls := "java/lang/System", name := "arraycopy", desc := "(Ljava/lang/Object;ILjava/lang/Object;II)V" } : Jvm.MethodName)) ∈ gtb := gtb_mem 435 (by decide +kernel) rfl
theorem kw_386 : (Jvm.Cond.methodLink "java/util/ArrayList" (79 : Nat) ({ cls := "java/lang/Math", name := "max", desc := "(II)I" } : Jvm.MethodName)) ∈ gtb := gtb_mem 436 (by decide +kernel) rfl
theorem kw_387 : (Jvm.Cond.classLink "java/util/ArrayList" (7 : Nat) "java/lang/Object") ∈ gtb := gtb_mem 437 (by decide +kernel) rfl
theorem kw_388 : (Jvm.Cond.methodLink "ManyHands" (296 : Nat) ({ cls := "ManyHands$Page", name := "append", desc := "(LManyHands$Entry;)V" } : Jvm.MethodName)) ∈ gtb := gtb_mem 438 (by decide +kernel) rfl
theorem kw_389 : (Jvm.Cond.instanceMethod ({ cls := "ManyHands$Page", name := "append", desc := "(LManyHands$Entry;)V" } : Jvm.MethodName)) ∈ gtb := gtb_mem 439 (by decide +kernel) rfl
theorem kw_390 : (Jvm.Cond.selects "ManyHands$Page" ({ cls := "ManyHands$Page", name := "append", desc := "(LManyHands$Entry;)V" } : Jvm.MethodName) ({ cls := "ManyHands$Page", name := "append", desc := "(LManyHands$Entry;)V" } : Jvm.MethodName)) ∈ gtb := gtb_mem 440 (by decide +kernel) rfl
set_option maxRecDepth 20000 in
theorem kw_391 : (Jvm.Cond.code ({ cls := "ManyHands$Page", name := "append", desc := "(LManyHands$Entry;)V" } : Jvm.MethodName) prog_5_method_4_code (2 : Nat) (Option.none : Option Jvm.ClassFile.FieldType)) ∈ gtb := gtb_mem 441 (by exact rfl) rfl
theorem kw_392 : (Jvm.Cond.methodLink "ManyHands$Page" (38 : Nat) ({ cls := "ManyHands$Page", name := "shelfOf", desc := "(I)I" } : Jvm.MethodName)) ∈ gtb := gtb_mem 442 (by decide +kernel) rfl
theorem kw_393 : (Jvm.Cond.methodLink "ManyHands" (303 : Nat) ({ cls := "ManyHands$Hand", name := "include", desc := "(LManyHands$Entry;)V" } : Jvm.MethodName)) ∈ gtb := gtb_mem 443 (by decide +kernel) rfl
theorem kw_394 : (Jvm.Cond.instanceMethod ({ cls := "ManyHands$Hand", name := "include", desc := "(LManyHands$Entry;)V" } : Jvm.MethodName)) ∈ gtb := gtb_mem 444 (by decide +kernel) rfl
theorem kw_395 : (Jvm.Cond.selects "ManyHands$Hand" ({ cls := "ManyHands$Hand", name := "include", desc := "(LManyHands$Entry;)V" } : Jvm.MethodName) ({ cls := "ManyHands$Hand", name := "include", desc := "(LManyHands$Entry;)V" } : Jvm.MethodName)) ∈ gtb := gtb_mem 445 (by decide +kernel) rfl
set_option maxRecDepth 20000 in
theorem kw_396 : (Jvm.Cond.code ({ cls := "ManyHands$Hand", name := "include", desc := "(LManyHands$Entry;)V" } : Jvm.MethodName) prog_3_method_4_code (2 : Nat) (Option.none : Option Jvm.ClassFile.FieldType)) ∈ gtb := gtb_mem 446 (by exact rfl) rfl
theorem kw_397 : (Jvm.Cond.methodLink "ManyHands$Hand" (69 : Nat) ({ cls := "java/lang/Math", name := "max", desc := "(II)I" } : Jvm.MethodName)) ∈ gtb := gtb_mem 447 (by decide +kernel) rfl
theorem kw_398 : (Jvm.Cond.methodLink "ManyHandsLaw" (40 : Nat) ({ cls := "ManyHands", name := "add", desc := "(IIJ)I" } : Jvm.MethodName)) ∈ gtb := gtb_mem 448 (by decide +kernel) rfl
theorem kw_399 : (Jvm.Cond.instanceMethod ({ cls := "ManyHands", name := "add", desc := "(IIJ)I" } : Jvm.MethodName)) ∈ gtb := gtb_mem 449 (by decide +kernel) rfl
theorem kw_400 : (Jvm.Cond.selects "ManyHands" ({ cls := "ManyHands", name := "add", desc := "(IIJ)I" } : Jvm.MethodName) ({ cls := "ManyHands", name := "add", desc := "(IIJ)I" } : Jvm.MethodName)) ∈ gtb := gtb_mem 450 (by decide +kernel) rfl
set_option maxRecDepth 20000 in
theorem kw_401 : (Jvm.Cond.code ({ cls := "ManyHands", name := "add", desc := "(IIJ)I" } : Jvm.MethodName) prog_1_method_7_code (8 : Nat) (Option.some Jvm.ClassFile.FieldType.int)) ∈ gtb := gtb_mem 451 (by exact rfl) rfl
theorem kw_402 : (Jvm.Cond.methodLink "ManyHands" (96 : Nat) ({ cls := "ManyHands", name := "isAmount", desc := "(J)Z" } : Jvm.MethodName)) ∈ gtb := gtb_mem 452 (by decide +kernel) rfl
theorem kw_403 : (Jvm.Cond.static ({ cls := "ManyHands", name := "isAmount", desc := "(J)Z" } : Jvm.MethodName)) ∈ gtb := gtb_mem 453 (by decide +kernel) rfl
set_option maxRecDepth 20000 in
theorem kw_404 : (Jvm.Cond.code ({ cls := "ManyHands", name := "isAmount", desc := "(J)Z" } : Jvm.MethodName) prog_1_method_46_code (2 : Nat) (Option.some Jvm.ClassFile.FieldType.boolean)) ∈ gtb := gtb_mem 454 (by exact rfl) rfl
theorem kw_405 : (Jvm.Cond.constantLong "ManyHands" (278 : Nat) (1000000000 : Int64)) ∈ gtb := gtb_mem 455 (by decide +kernel) rfl
theorem kw_406 : (Jvm.Cond.methodLink "ManyHandsLaw" (44 : Nat) ({ cls := "ManyHands", name := "put", desc := "(III)I" } : Jvm.MethodName)) ∈ gtb := gtb_mem 456 (by decide +kernel) rfl
theorem kw_407 : (Jvm.Cond.instanceMethod ({ cls := "ManyHands", name := "put", desc := "(III)I" } : Jvm.MethodName)) ∈ gtb := gtb_mem 457 (by decide +kernel) rfl
theorem kw_408 : (Jvm.Cond.selects "ManyHands" ({ cls := "ManyHands", name := "put", desc := "(III)I" } : Jvm.MethodName) ({ cls := "ManyHands", name := "put", desc := "(III)I" } : Jvm.MethodName)) ∈ gtb := gtb_mem 458 (by decide +kernel) rfl
set_option maxRecDepth 20000 in
theorem kw_409 : (Jvm.Cond.code ({ cls := "ManyHands", name := "put", desc := "(III)I" } : Jvm.MethodName) prog_1_method_8_code (7 : Nat) (Option.some Jvm.ClassFile.FieldType.int)) ∈ gtb := gtb_mem 459 (by exact rfl) rfl
theorem kw_410 : (Jvm.Cond.methodLink "ManyHands" (104 : Nat) ({ cls := "ManyHands", name := "isThing", desc := "(I)Z" } : Jvm.MethodName)) ∈ gtb := gtb_mem 460 (by decide +kernel) rfl
theorem kw_411 : (Jvm.Cond.static ({ cls := "ManyHands", name := "isThing", desc := "(I)Z" } : Jvm.MethodName)) ∈ gtb := gtb_mem 461 (by decide +kernel) rfl
set_option maxRecDepth 20000 in
theorem kw_412 : (Jvm.Cond.code ({ cls := "ManyHands", name := "isThing", desc := "(I)Z" } : Jvm.MethodName) prog_1_method_45_code (1 : Nat) (Option.some Jvm.ClassFile.FieldType.boolean)) ∈ gtb := gtb_mem 462 (by exact rfl) rfl
theorem kw_413 : (Jvm.Cond.methodLink "ManyHandsLaw" (49 : Nat) ({ cls := "ManyHands", name := "take", desc := "(III)I" } : Jvm.MethodName)) ∈ gtb := gtb_mem 463 (by decide +kernel) rfl
theorem kw_414 : (Jvm.Cond.instanceMethod ({ cls := "ManyHands", name := "take", desc := "(III)I" } : Jvm.MethodName)) ∈ gtb := gtb_mem 464 (by decide +kernel) rfl
theorem kw_415 : (Jvm.Cond.selects "ManyHands" ({ cls := "ManyHands", name := "take", desc := "(III)I" } : Jvm.MethodName) ({ cls := "ManyHands", name := "take", desc := "(III)I" } : Jvm.MethodName)) ∈ gtb := gtb_mem 465 (by decide +kernel) rfl
set_option maxRecDepth 20000 in
theorem kw_416 : (Jvm.Cond.code ({ cls := "ManyHands", name := "take", desc := "(III)I" } : Jvm.MethodName) prog_1_method_9_code (7 : Nat) (Option.some Jvm.ClassFile.FieldType.int)) ∈ gtb := gtb_mem 466 (by exact rfl) rfl
theorem kw_417 : (Jvm.Cond.methodLink "ManyHands" (111 : Nat) ({ cls := "ManyHands$Page", name := "timesIn", desc := "(LManyHands$Reach;I)I" } : Jvm.MethodName)) ∈ gtb := gtb_mem 467 (by decide +kernel) rfl
theorem kw_418 : (Jvm.Cond.instanceMethod ({ cls := "ManyHands$Page", name := "timesIn", desc := "(LManyHands$Reach;I)I" } : Jvm.MethodName)) ∈ gtb := gtb_mem 468 (by decide +kernel) rfl
theorem kw_419 : (Jvm.Cond.selects "ManyHands$Page" ({ cls := "ManyHands$Page", name := "timesIn", desc := "(LManyHands$Reach;I)I" } : Jvm.MethodName) ({ cls := "ManyHands$Page", name := "timesIn", desc := "(LManyHands$Reach;I)I" } : Jvm.MethodName)) ∈ gtb := gtb_mem 469 (by decide +kernel) rfl
set_option maxRecDepth 20000 in
theorem kw_420 : (Jvm.Cond.code ({ cls := "ManyHands$Page", name := "timesIn", desc := "(LManyHands$Reach;I)I" } : Jvm.MethodName) prog_5_method_12_code (3 : Nat) (Option.some Jvm.ClassFile.FieldType.int)) ∈ gtb := gtb_mem 470 (by exact rfl) rfl
theorem kw_421 : (Jvm.Cond.methodLink "ManyHands$Page" (76 : Nat) ({ cls := "ManyHands$Page", name := "unknownTo", desc := "(LManyHands$Reach;III)I" } : Jvm.MethodName)) ∈ gtb := gtb_mem 471 (by decide +kernel) rfl
theorem kw_423 : (Jvm.Cond.instanceMethod ({ cls := "ManyHands$Page", name := "unknownTo", desc := "(LManyHands$Reach;III)I" } : Jvm.MethodName)) ∈ gtb := gtb_mem 473 (by decide +kernel) rfl
set_option maxRecDepth 20000 in
theorem kw_424 : (Jvm.Cond.code ({ cls := "ManyHands$Page", name := "unknownTo", desc := "(LManyHands$Reach;III)I" } : Jvm.MethodName) prog_5_method_11_code (7 : Nat) (Option.some Jvm.ClassFile.FieldType.int)) ∈ gtb := gtb_mem 474 (by exact rfl) rfl
theorem kw_425 : (Jvm.Cond.methodLink "ManyHands$Page" (72 : Nat) ({ cls := "ManyHands$Page", name := "gatherKnown", desc := "(LManyHands$Reach;II)V" } : Jvm.MethodName)) ∈ gtb := gtb_mem 475 (by decide +kernel) rfl
theorem kw_427 : (Jvm.Cond.instanceMethod ({ cls := "ManyHands$Page", name := "gatherKnown", desc := "(LManyHands$Reach;II)V" } : Jvm.MethodName)) ∈ gtb := gtb_mem 477 (by decide +kernel) rfl
set_option maxRecDepth 20000 in
theorem kw_428 : (Jvm.Cond.code ({ cls := "ManyHands$Page", name := "gatherKnown", desc := "(LManyHands$Reach;II)V" } : Jvm.MethodName) prog_5_method_10_code (5 : Nat) (Option.none : Option Jvm.ClassFile.FieldType)) ∈ gtb := gtb_mem 478 (by exact rfl) rfl
theorem kw_429 : (Jvm.Cond.methodLink "ManyHands$Page" (64 : Nat) ({ cls := "ManyHands$Reach", name := "empty", desc := "()V" } : Jvm.MethodName)) ∈ gtb := gtb_mem 479 (by decide +kernel) rfl
theorem kw_430 : (Jvm.Cond.instanceMethod ({ cls := "ManyHands$Reach", name := "empty", desc := "()V" } : Jvm.MethodName)) ∈ gtb := gtb_mem 480 (by decide +kernel) rfl
theorem kw_431 : (Jvm.Cond.selects "ManyHands$Reach" ({ cls := "ManyHands$Reach", name := "empty", desc := "()V" } : Jvm.MethodName) ({ cls := "ManyHands$Reach", name := "empty", desc := "()V" } : Jvm.MethodName)) ∈ gtb := gtb_mem 481 (by decide +kernel) rfl
set_option maxRecDepth 20000 in
theorem kw_432 : (Jvm.Cond.code ({ cls := "ManyHands$Reach", name := "empty", desc := "()V" } : Jvm.MethodName) prog_6_method_5_code (2 : Nat) (Option.none : Option Jvm.ClassFile.FieldType)) ∈ gtb := gtb_mem 482 (by exact rfl) rfl
theorem kw_433 : (Jvm.Cond.methodLink "ManyHands$Page" (42 : Nat) ({ cls := "ManyHands$Reach", name := "holds", desc := "(LManyHands$Entry;)Z" } : Jvm.MethodName)) ∈ gtb := gtb_mem 483 (by decide +kernel) rfl
theorem kw_434 : (Jvm.Cond.instanceMethod ({ cls := "ManyHands$Reach", name := "holds", desc := "(LManyHands$Entry;)Z" } : Jvm.MethodName)) ∈ gtb := gtb_mem 484 (by decide +kernel) rfl
theorem kw_435 : (Jvm.Cond.selects "ManyHands$Reach" ({ cls := "ManyHands$Reach", name := "holds", desc := "(LManyHands$Entry;)Z" } : Jvm.MethodName) ({ cls := "ManyHands$Reach", name := "holds", desc := "(LManyHands$Entry;)Z" } : Jvm.MethodName)) ∈ gtb := gtb_mem 485 (by decide +kernel) rfl
set_option maxRecDepth 20000 in
theorem kw_436 : (Jvm.Cond.code ({ cls := "ManyHands$Reach", name := "holds", desc := "(LManyHands$Entry;)Z" } : Jvm.MethodName) prog_6_method_2_code (2 : Nat) (Option.some Jvm.ClassFile.FieldType.boolean)) ∈ gtb := gtb_mem 486 (by exact rfl) rfl
theorem kw_437 : (Jvm.Cond.methodLink "ManyHands$Page" (68 : Nat) ({ cls := "ManyHands$Reach", name := "widen", desc := "(LManyHands$Reach;)V" } : Jvm.MethodName)) ∈ gtb := gtb_mem 487 (by decide +kernel) rfl
theorem kw_438 : (Jvm.Cond.methodLink "ManyHandsLaw" (53 : Nat) ({ cls := "ManyHands", name := "give", desc := "(IIIJ)I" } : Jvm.MethodName)) ∈ gtb := gtb_mem 488 (by decide +kernel) rfl
theorem kw_439 : (Jvm.Cond.instanceMethod ({ cls := "ManyHands", name := "give", desc := "(IIIJ)I" } : Jvm.MethodName)) ∈ gtb := gtb_mem 489 (by decide +kernel) rfl
theorem kw_440 : (Jvm.Cond.selects "ManyHands" ({ cls := "ManyHands", name := "give", desc := "(IIIJ)I" } : Jvm.MethodName) ({ cls := "ManyHands", name := "give", desc := "(IIIJ)I" } : Jvm.MethodName)) ∈ gtb := gtb_mem 490 (by decide +kernel) rfl
set_option maxRecDepth 20000 in
theorem kw_441 : (Jvm.Cond.code ({ cls := "ManyHands", name := "give", desc := "(IIIJ)I" } : Jvm.MethodName) prog_1_method_10_code (9 : Nat) (Option.some Jvm.ClassFile.FieldType.int)) ∈ gtb := gtb_mem 491 (by exact rfl) rfl
theorem kw_442 : (Jvm.Cond.methodLink "ManyHands" (115 : Nat) ({ cls := "ManyHands", name := "makeOfRights", desc := "(LManyHands$Hand;LManyHands$Page;IIJ)I" } : Jvm.MethodName)) ∈ gtb := gtb_mem 492 (by decide +kernel) rfl
theorem kw_444 : (Jvm.Cond.instanceMethod ({ cls := "ManyHands", name := "makeOfRights", desc := "(LManyHands$Hand;LManyHands$Page;IIJ)I" } : Jvm.MethodName)) ∈ gtb := gtb_mem 494 (by decide +kernel) rfl
set_option maxRecDepth 20000 in
theorem kw_445 : (Jvm.Cond.code ({ cls := "ManyHands", name := "makeOfRights", desc := "(LManyHands$Hand;LManyHands$Page;IIJ)I" } : Jvm.MethodName) prog_1_method_54_code (8 : Nat) (Option.some Jvm.ClassFile.FieldType.int)) ∈ gtb := gtb_mem 495 (by exact rfl) rfl
theorem kw_446 : (Jvm.Cond.methodLink "ManyHands" (209 : Nat) ({ cls := "ManyHands$Page", name := "rightsOf", desc := "(LManyHands$Reach;I)J" } : Jvm.MethodName)) ∈ gtb := gtb_mem 496 (by decide +kernel) rfl
theorem kw_447 : (Jvm.Cond.instanceMethod ({ cls := "ManyHands$Page", name := "rightsOf", desc := "(LManyHands$Reach;I)J" } : Jvm.MethodName)) ∈ gtb := gtb_mem 497 (by decide +kernel) rfl
theorem kw_448 : (Jvm.Cond.selects "ManyHands$Page" ({ cls := "ManyHands$Page", name := "rightsOf", desc := "(LManyHands$Reach;I)J" } : Jvm.MethodName) ({ cls := "ManyHands$Page", name := "rightsOf", desc := "(LManyHands$Reach;I)J" } : Jvm.MethodName)) ∈ gtb := gtb_mem 498 (by decide +kernel) rfl
set_option maxRecDepth 20000 in
theorem kw_449 : (Jvm.Cond.code ({ cls := "ManyHands$Page", name := "rightsOf", desc := "(LManyHands$Reach;I)J" } : Jvm.MethodName) prog_5_method_9_code (6 : Nat) (Option.some Jvm.ClassFile.FieldType.long)) ∈ gtb := gtb_mem 499 (by exact rfl) rfl
theorem kw_450 : (Jvm.Cond.methodLink "ManyHands$Page" (60 : Nat) ({ cls := "ManyHands$Entry", name := "rightsFor", desc := "(I)J" } : Jvm.MethodName)) ∈ gtb := gtb_mem 500 (by decide +kernel) rfl
theorem kw_451 : (Jvm.Cond.instanceMethod ({ cls := "ManyHands$Entry", name := "rightsFor", desc := "(I)J" } : Jvm.MethodName)) ∈ gtb := gtb_mem 501 (by decide +kernel) rfl
theorem kw_452 : (Jvm.Cond.selects "ManyHands$Entry" ({ cls := "ManyHands$Entry", name := "rightsFor", desc := "(I)J" } : Jvm.MethodName) ({ cls := "ManyHands$Entry", name := "rightsFor", desc := "(I)J" } : Jvm.MethodName)) ∈ gtb := gtb_mem 502 (by decide +kernel) rfl
set_option maxRecDepth 20000 in
theorem kw_453 : (Jvm.Cond.code ({ cls := "ManyHands$Entry", name := "rightsFor", desc := "(I)J" } : Jvm.MethodName) prog_2_method_3_code (4 : Nat) (Option.some Jvm.ClassFile.FieldType.long)) ∈ gtb := gtb_mem 503 (by exact rfl) rfl
theorem kw_454 : (Jvm.Cond.methodLink "ManyHandsLaw" (58 : Nat) ({ cls := "ManyHands", name := "spend", desc := "(IIJ)I" } : Jvm.MethodName)) ∈ gtb := gtb_mem 504 (by decide +kernel) rfl
theorem kw_455 : (Jvm.Cond.instanceMethod ({ cls := "ManyHands", name := "spend", desc := "(IIJ)I" } : Jvm.MethodName)) ∈ gtb := gtb_mem 505 (by decide +kernel) rfl
theorem kw_456 : (Jvm.Cond.selects "ManyHands" ({ cls := "ManyHands", name := "spend", desc := "(IIJ)I" } : Jvm.MethodName) ({ cls := "ManyHands", name := "spend", desc := "(IIJ)I" } : Jvm.MethodName)) ∈ gtb := gtb_mem 506 (by decide +kernel) rfl
set_option maxRecDepth 20000 in
theorem kw_457 : (Jvm.Cond.code ({ cls := "ManyHands", name := "spend", desc := "(IIJ)I" } : Jvm.MethodName) prog_1_method_11_code (7 : Nat) (Option.some Jvm.ClassFile.FieldType.int)) ∈ gtb := gtb_mem 507 (by exact rfl) rfl
theorem kw_458 : (Jvm.Cond.methodLink "ManyHandsLaw" (62 : Nat) ({ cls := "ManyHands", name := "raise", desc := "(IIZ)I" } : Jvm.MethodName)) ∈ gtb := gtb_mem 508 (by decide +kernel) rfl
theorem kw_459 : (Jvm.Cond.instanceMethod ({ cls := "ManyHands", name := "raise", desc := "(IIZ)I" } : Jvm.MethodName)) ∈ gtb := gtb_mem 509 (by decide +kernel) rfl
theorem kw_460 : (Jvm.Cond.selects "ManyHands" ({ cls := "ManyHands", name := "raise", desc := "(IIZ)I" } : Jvm.MethodName) ({ cls := "ManyHands", name := "raise", desc := "(IIZ)I" } : Jvm.MethodName)) ∈ gtb := gtb_mem 510 (by decide +kernel) rfl
set_option maxRecDepth 20000 in
theorem kw_461 : (Jvm.Cond.code ({ cls := "ManyHands", name := "raise", desc := "(IIZ)I" } : Jvm.MethodName) prog_1_method_12_code (7 : Nat) (Option.some Jvm.ClassFile.FieldType.int)) ∈ gtb := gtb_mem 511 (by exact rfl) rfl
theorem kw_462 : (Jvm.Cond.methodLink "ManyHandsLaw" (66 : Nat) ({ cls := "ManyHands", name := "change", desc := "(II)I" } : Jvm.MethodName)) ∈ gtb := gtb_mem 512 (by decide +kernel) rfl
theorem kw_463 : (Jvm.Cond.instanceMethod ({ cls := "ManyHands", name := "change", desc := "(II)I" } : Jvm.MethodName)) ∈ gtb := gtb_mem 513 (by decide +kernel) rfl
theorem kw_464 : (Jvm.Cond.selects "ManyHands" ({ cls := "ManyHands", name := "change", desc := "(II)I" } : Jvm.MethodName) ({ cls := "ManyHands", name := "change", desc := "(II)I" } : Jvm.MethodName)) ∈ gtb := gtb_mem 514 (by decide +kernel) rfl
set_option maxRecDepth 20000 in
theorem kw_465 : (Jvm.Cond.code ({ cls := "ManyHands", name := "change", desc := "(II)I" } : Jvm.MethodName) prog_1_method_13_code (4 : Nat) (Option.some Jvm.ClassFile.FieldType.int)) ∈ gtb := gtb_mem 515 (by exact rfl) rfl
theorem kw_466 : (Jvm.Cond.methodLink "ManyHands" (118 : Nat) ({ cls := "ManyHands", name := "entryAt", desc := "(I)LManyHands$Entry;" } : Jvm.MethodName)) ∈ gtb := gtb_mem 516 (by decide +kernel) rfl
theorem kw_468 : (Jvm.Cond.instanceMethod ({ cls := "ManyHands", name := "entryAt", desc := "(I)LManyHands$Entry;" } : Jvm.MethodName)) ∈ gtb := gtb_mem 518 (by decide +kernel) rfl
set_option maxRecDepth 20000 in
theorem kw_469 : (Jvm.Cond.code ({ cls := "ManyHands", name := "entryAt", desc := "(I)LManyHands$Entry;" } : Jvm.MethodName) prog_1_method_43_code (2 : Nat) (Option.some (Jvm.ClassFile.FieldType.object "ManyHands$Entry"))) ∈ gtb := gtb_mem 519 (by exact rfl) rfl
theorem kw_470 : (Jvm.Cond.methodLink "ManyHands" (274 : Nat) ({ cls := "java/util/ArrayList", name := "get", desc := "(I)Ljava/lang/Object;" } : Jvm.MethodName)) ∈ gtb := gtb_mem 520 (by decide +kernel) rfl
theorem kw_471 : (Jvm.Cond.instanceMethod ({ cls := "java/util/ArrayList", name := "get", desc := "(I)Ljava/lang/Object;" } : Jvm.MethodName)) ∈ gtb := gtb_mem 521 (by decide +kernel) rfl
theorem kw_472 : (Jvm.Cond.selects "java/util/ArrayList" ({ cls := "java/util/ArrayList", name := "get", desc := "(I)Ljava/lang/Object;" } : Jvm.MethodName) ({ cls := "java/util/ArrayList", name := "get", desc := "(I)Ljava/lang/Object;" } : Jvm.MethodName)) ∈ gtb := gtb_mem 522 (by decide +kernel) rfl
set_option maxRecDepth 20000 in
theorem kw_473 : (Jvm.Cond.code ({ cls := "java/util/ArrayList", name := "get", desc := "(I)Ljava/lang/Object;" } : Jvm.MethodName) prog_17_method_20_code (2 : Nat) (Option.some (Jvm.ClassFile.FieldType.object "java/lang/Object"))) ∈ gtb := gtb_mem 523 (by exact rfl) rfl
theorem kw_474 : (Jvm.Cond.methodLink "java/util/ArrayList" (118 : Nat) ({ cls := "java/util/Objects", name := "checkIndex", desc := "(II)I" } : Jvm.MethodName)) ∈ gtb := gtb_mem 524 (by decide +kernel) rfl
theorem kw_475 : (Jvm.Cond.static ({ cls := "java/util/Objects", name := "checkIndex", desc := "(II)I" } : Jvm.MethodName)) ∈ gtb := gtb_mem 525 (by decide +kernel) rfl
set_option maxRecDepth 20000 in
theorem kw_476 : (Jvm.Cond.code ({ cls := "java/util/Objects", name := "checkIndex", desc := "(II)I" } : Jvm.MethodName) prog_21_method_17_code (2 : Nat) (Option.some Jvm.ClassFile.FieldType.int)) ∈ gtb := gtb_mem 526 (by exact rfl) rfl
theorem kw_477 : (Jvm.Cond.methodLink "java/util/Objects" (105 : Nat) ({ cls := "jdk/internal/util/Preconditions", name := "checkIndex", desc := "(IILjava/util/function/BiFunction;)I" } : Jvm.MethodName)) ∈ gtb := gtb_mem 527 (by decide +kernel) rfl
theorem kw_478 : (Jvm.Cond.static ({ cls := "jdk/internal/util/Preconditions", name := "checkIndex", desc := "(IILjava/util/function/BiFunction;)I" } : Jvm.MethodName)) ∈ gtb := gtb_mem 528 (by decide +kernel) rfl
set_option maxRecDepth 20000 in
theorem kw_479 : (Jvm.Cond.code ({ cls := "jdk/internal/util/Preconditions", name := "checkIndex", desc := "(IILjava/util/function/BiFunction;)I" } : Jvm.MethodName) prog_25_method_11_code (3 : Nat) (Option.some Jvm.ClassFile.FieldType.int)) ∈ gtb := gtb_mem 529 (by exact rfl) rfl
theorem kw_480 : (Jvm.Cond.methodLink "java/util/ArrayList" (123 : Nat) ({ cls := "java/util/ArrayList", name := "elementData", desc := "(I)Ljava/lang/Object;" } : Jvm.MethodName)) ∈ gtb := gtb_mem 530 (by decide +kernel) rfl
theorem kw_481 : (Jvm.Cond.instanceMethod ({ cls := "java/util/ArrayList", name := "elementData", desc := "(I)Ljava/lang/Object;" } : Jvm.MethodName)) ∈ gtb := gtb_mem 531 (by decide +kernel) rfl
theorem kw_482 : (Jvm.Cond.selects "java/util/ArrayList" ({ cls := "java/util/ArrayList", name := "elementData", desc := "(I)Ljava/lang/Object;" } : Jvm.MethodName) ({ cls := "java/util/ArrayList", name := "elementData", desc := "(I)Ljava/lang/Object;" } : Jvm.MethodName)) ∈ gtb := gtb_mem 532 (by decide +kernel) rfl
set_option maxRecDepth 20000 in
theorem kw_483 : (Jvm.Cond.code ({ cls := "java/util/ArrayList", name := "elementData", desc := "(I)Ljava/lang/Object;" } : Jvm.MethodName) prog_17_method_18_code (2 : Nat) (Option.some (Jvm.ClassFile.FieldType.object "java/lang/Object"))) ∈ gtb := gtb_mem 533 (by exact rfl) rfl
theorem kw_484 : (Jvm.Cond.methodLink "ManyHands" (136 : Nat) ({ cls := "ManyHands$Reach", name := "size", desc := "()I" } : Jvm.MethodName)) ∈ gtb := gtb_mem 534 (by decide +kernel) rfl
theorem kw_485 : (Jvm.Cond.instanceMethod ({ cls := "ManyHands$Reach", name := "size", desc := "()I" } : Jvm.MethodName)) ∈ gtb := gtb_mem 535 (by decide +kernel) rfl
theorem kw_486 : (Jvm.Cond.selects "ManyHands$Reach" ({ cls := "ManyHands$Reach", name := "size", desc := "()I" } : Jvm.MethodName) ({ cls := "ManyHands$Reach", name := "size", desc := "()I" } : Jvm.MethodName)) ∈ gtb := gtb_mem 536 (by decide +kernel) rfl
set_option maxRecDepth 20000 in
theorem kw_487 : (Jvm.Cond.code ({ cls := "ManyHands$Reach", name := "size", desc := "()I" } : Jvm.MethodName) prog_6_method_6_code (3 : Nat) (Option.some Jvm.ClassFile.FieldType.int)) ∈ gtb := gtb_mem 537 (by exact rfl) rfl
theorem kw_488 : (Jvm.Cond.methodLink "ManyHands" (142 : Nat) ({ cls := "ManyHands", name := "allHave", desc := "(LManyHands$Entry;)Z" } : Jvm.MethodName)) ∈ gtb := gtb_mem 538 (by decide +kernel) rfl
theorem kw_490 : (Jvm.Cond.instanceMethod ({ cls := "ManyHands", name := "allHave", desc := "(LManyHands$Entry;)Z" } : Jvm.MethodName)) ∈ gtb := gtb_mem 540 (by decide +kernel) rfl
set_option maxRecDepth 20000 in
theorem kw_491 : (Jvm.Cond.code ({ cls := "ManyHands", name := "allHave", desc := "(LManyHands$Entry;)Z" } : Jvm.MethodName) prog_1_method_56_code (3 : Nat) (Option.some Jvm.ClassFile.FieldType.boolean)) ∈ gtb := gtb_mem 541 (by exact rfl) rfl
theorem kw_492 : (Jvm.Cond.methodLink "ManyHands" (146 : Nat) ({ cls := "ManyHands$Reach", name := "holds", desc := "(LManyHands$Entry;)Z" } : Jvm.MethodName)) ∈ gtb := gtb_mem 542 (by decide +kernel) rfl
theorem kw_493 : (Jvm.Cond.methodLink "ManyHandsLaw" (70 : Nat) ({ cls := "ManyHands", name := "knows", desc := "(II)I" } : Jvm.MethodName)) ∈ gtb := gtb_mem 543 (by decide +kernel) rfl
theorem kw_494 : (Jvm.Cond.instanceMethod ({ cls := "ManyHands", name := "knows", desc := "(II)I" } : Jvm.MethodName)) ∈ gtb := gtb_mem 544 (by decide +kernel) rfl
theorem kw_495 : (Jvm.Cond.selects "ManyHands" ({ cls := "ManyHands", name := "knows", desc := "(II)I" } : Jvm.MethodName) ({ cls := "ManyHands", name := "knows", desc := "(II)I" } : Jvm.MethodName)) ∈ gtb := gtb_mem 545 (by decide +kernel) rfl
set_option maxRecDepth 20000 in
theorem kw_496 : (Jvm.Cond.code ({ cls := "ManyHands", name := "knows", desc := "(II)I" } : Jvm.MethodName) prog_1_method_14_code (5 : Nat) (Option.some Jvm.ClassFile.FieldType.int)) ∈ gtb := gtb_mem 546 (by exact rfl) rfl
theorem kw_497 : (Jvm.Cond.methodLink "ManyHandsLaw" (74 : Nat) ({ cls := "ManyHands", name := "come", desc := "(II)I" } : Jvm.MethodName)) ∈ gtb := gtb_mem 547 (by decide +kernel) rfl
theorem kw_498 : (Jvm.Cond.instanceMethod ({ cls := "ManyHands", name := "come", desc := "(II)I" } : Jvm.MethodName)) ∈ gtb := gtb_mem 548 (by decide +kernel) rfl
theorem kw_499 : (Jvm.Cond.selects "ManyHands" ({ cls := "ManyHands", name := "come", desc := "(II)I" } : Jvm.MethodName) ({ cls := "ManyHands", name := "come", desc := "(II)I" } : Jvm.MethodName)) ∈ gtb := gtb_mem 549 (by decide +kernel) rfl
set_option maxRecDepth 20000 in
theorem kw_500 : (Jvm.Cond.code ({ cls := "ManyHands", name := "come", desc := "(II)I" } : Jvm.MethodName) prog_1_method_15_code (5 : Nat) (Option.some Jvm.ClassFile.FieldType.int)) ∈ gtb := gtb_mem 550 (by exact rfl) rfl
theorem kw_501 : (Jvm.Cond.methodLink "ManyHands" (149 : Nat) ({ cls := "ManyHands$Hand", name := "receive", desc := "(LManyHands$Entry;)I" } : Jvm.MethodName)) ∈ gtb := gtb_mem 551 (by decide +kernel) rfl
theorem kw_502 : (Jvm.Cond.instanceMethod ({ cls := "ManyHands$Hand", name := "receive", desc := "(LManyHands$Entry;)I" } : Jvm.MethodName)) ∈ gtb := gtb_mem 552 (by decide +kernel) rfl
theorem kw_503 : (Jvm.Cond.selects "ManyHands$Hand" ({ cls := "ManyHands$Hand", name := "receive", desc := "(LManyHands$Entry;)I" } : Jvm.MethodName) ({ cls := "ManyHands$Hand", name := "receive", desc := "(LManyHands$Entry;)I" } : Jvm.MethodName)) ∈ gtb := gtb_mem 553 (by decide +kernel) rfl
set_option maxRecDepth 20000 in
theorem kw_504 : (Jvm.Cond.code ({ cls := "ManyHands$Hand", name := "receive", desc := "(LManyHands$Entry;)I" } : Jvm.MethodName) prog_3_method_6_code (2 : Nat) (Option.some Jvm.ClassFile.FieldType.int)) ∈ gtb := gtb_mem 554 (by exact rfl) rfl
theorem kw_505 : (Jvm.Cond.methodLink "ManyHands$Hand" (75 : Nat) ({ cls := "ManyHands$Hand", name := "awaits", desc := "(LManyHands$Entry;)Z" } : Jvm.MethodName)) ∈ gtb := gtb_mem 555 (by decide +kernel) rfl
theorem kw_506 : (Jvm.Cond.instanceMethod ({ cls := "ManyHands$Hand", name := "awaits", desc := "(LManyHands$Entry;)Z" } : Jvm.MethodName)) ∈ gtb := gtb_mem 556 (by decide +kernel) rfl
theorem kw_507 : (Jvm.Cond.selects "ManyHands$Hand" ({ cls := "ManyHands$Hand", name := "awaits", desc := "(LManyHands$Entry;)Z" } : Jvm.MethodName) ({ cls := "ManyHands$Hand", name := "awaits", desc := "(LManyHands$Entry;)Z" } : Jvm.MethodName)) ∈ gtb := gtb_mem 557 (by decide +kernel) rfl
set_option maxRecDepth 20000 in
theorem kw_508 : (Jvm.Cond.code ({ cls := "ManyHands$Hand", name := "awaits", desc := "(LManyHands$Entry;)Z" } : Jvm.MethodName) prog_3_method_5_code (3 : Nat) (Option.some Jvm.ClassFile.FieldType.boolean)) ∈ gtb := gtb_mem 558 (by exact rfl) rfl
theorem kw_509 : (Jvm.Cond.methodLink "ManyHands$Hand" (51 : Nat) ({ cls := "java/util/ArrayList", name := "get", desc := "(I)Ljava/lang/Object;" } : Jvm.MethodName)) ∈ gtb := gtb_mem 559 (by decide +kernel) rfl
theorem kw_510 : (Jvm.Cond.methodLink "ManyHands$Hand" (79 : Nat) ({ cls := "ManyHands$Hand", name := "queue", desc := "(LManyHands$Entry;)V" } : Jvm.MethodName)) ∈ gtb := gtb_mem 560 (by decide +kernel) rfl
theorem kw_511 : (Jvm.Cond.instanceMethod ({ cls := "ManyHands$Hand", name := "queue", desc := "(LManyHands$Entry;)V" } : Jvm.MethodName)) ∈ gtb := gtb_mem 561 (by decide +kernel) rfl
theorem kw_512 : (Jvm.Cond.selects "ManyHands$Hand" ({ cls := "ManyHands$Hand", name := "queue", desc := "(LManyHands$Entry;)V" } : Jvm.MethodName) ({ cls := "ManyHands$Hand", name := "queue", desc := "(LManyHands$Entry;)V" } : Jvm.MethodName)) ∈ gtb := gtb_mem 562 (by decide +kernel) rfl
set_option maxRecDepth 20000 in
theorem kw_513 : (Jvm.Cond.code ({ cls := "ManyHands$Hand", name := "queue", desc := "(LManyHands$Entry;)V" } : Jvm.MethodName) prog_3_method_7_code (3 : Nat) (Option.none : Option Jvm.ClassFile.FieldType)) ∈ gtb := gtb_mem 563 (by exact rfl) rfl
theorem kw_514 : (Jvm.Cond.classLink "ManyHands$Hand" (55 : Nat) "ManyHands$Entry") ∈ gtb := gtb_mem 564 (by decide +kernel) rfl
theorem kw_515 : (Jvm.Cond.methodLink "ManyHands$Hand" (86 : Nat) ({ cls := "ManyHands$Entry", name := "isBelow", desc := "(LManyHands$Entry;)Z" } : Jvm.MethodName)) ∈ gtb := gtb_mem 565 (by decide +kernel) rfl
theorem kw_516 : (Jvm.Cond.instanceMethod ({ cls := "ManyHands$Entry", name := "isBelow", desc := "(LManyHands$Entry;)Z" } : Jvm.MethodName)) ∈ gtb := gtb_mem 566 (by decide +kernel) rfl
theorem kw_517 : (Jvm.Cond.selects "ManyHands$Entry" ({ cls := "ManyHands$Entry", name := "isBelow", desc := "(LManyHands$Entry;)Z" } : Jvm.MethodName) ({ cls := "ManyHands$Entry", name := "isBelow", desc := "(LManyHands$Entry;)Z" } : Jvm.MethodName)) ∈ gtb := gtb_mem 567 (by decide +kernel) rfl
set_option maxRecDepth 20000 in
theorem kw_518 : (Jvm.Cond.code ({ cls := "ManyHands$Entry", name := "isBelow", desc := "(LManyHands$Entry;)Z" } : Jvm.MethodName) prog_2_method_2_code (2 : Nat) (Option.some Jvm.ClassFile.FieldType.boolean)) ∈ gtb := gtb_mem 568 (by exact rfl) rfl
theorem kw_519 : (Jvm.Cond.methodLink "ManyHands$Hand" (89 : Nat) ({ cls := "java/util/ArrayList", name := "add", desc := "(ILjava/lang/Object;)V" } : Jvm.MethodName)) ∈ gtb := gtb_mem 569 (by decide +kernel) rfl
theorem kw_520 : (Jvm.Cond.instanceMethod ({ cls := "java/util/ArrayList", name := "add", desc := "(ILjava/lang/Object;)V" } : Jvm.MethodName)) ∈ gtb := gtb_mem 570 (by decide +kernel) rfl
theorem kw_521 : (Jvm.Cond.selects "java/util/ArrayList" ({ cls := "java/util/ArrayList", name := "add", desc := "(ILjava/lang/Object;)V" } : Jvm.MethodName) ({ cls := "java/util/ArrayList", name := "add", desc := "(ILjava/lang/Object;)V" } : Jvm.MethodName)) ∈ gtb := gtb_mem 571 (by decide +kernel) rfl
set_option maxRecDepth 20000 in
theorem kw_522 : (Jvm.Cond.code ({ cls := "java/util/ArrayList", name := "add", desc := "(ILjava/lang/Object;)V" } : Jvm.MethodName) prog_17_method_26_code (5 : Nat) (Option.none : Option Jvm.ClassFile.FieldType)) ∈ gtb := gtb_mem 572 (by exact rfl) rfl
theorem kw_523 : (Jvm.Cond.methodLink "java/util/ArrayList" (135 : Nat) ({ cls := "java/util/ArrayList", name := "rangeCheckForAdd", desc := "(I)V" } : Jvm.MethodName)) ∈ gtb := gtb_mem 573 (by decide +kernel) rfl
theorem kw_525 : (Jvm.Cond.instanceMethod ({ cls := "java/util/ArrayList", name := "rangeCheckForAdd", desc := "(I)V" } : Jvm.MethodName)) ∈ gtb := gtb_mem 575 (by decide +kernel) rfl
set_option maxRecDepth 20000 in
theorem kw_526 : (Jvm.Cond.code ({ cls := "java/util/ArrayList", name := "rangeCheckForAdd", desc := "(I)V" } : Jvm.MethodName) prog_17_method_45_code (2 : Nat) (Option.none : Option Jvm.ClassFile.FieldType)) ∈ gtb := gtb_mem 576 (by exact rfl) rfl
theorem kw_527 : (Jvm.Cond.methodLink "java/util/ArrayList" (112 : Nat) ({ cls := "java/lang/System", name := "arraycopy", desc := "(Ljava/lang/Object;ILjava/lang/Object;II)V" } : Jvm.MethodName)) ∈ gtb := gtb_mem 577 (by decide +kernel) rfl
theorem kw_528 : (Jvm.Cond.methodLink "ManyHands$Hand" (83 : Nat) ({ cls := "ManyHands$Hand", name := "includeReady", desc := "()I" } : Jvm.MethodName)) ∈ gtb := gtb_mem 578 (by decide +kernel) rfl
theorem kw_529 : (Jvm.Cond.instanceMethod ({ cls := "ManyHands$Hand", name := "includeReady", desc := "()I" } : Jvm.MethodName)) ∈ gtb := gtb_mem 579 (by decide +kernel) rfl
theorem kw_530 : (Jvm.Cond.selects "ManyHands$Hand" ({ cls := "ManyHands$Hand", name := "includeReady", desc := "()I" } : Jvm.MethodName) ({ cls := "ManyHands$Hand", name := "includeReady", desc := "()I" } : Jvm.MethodName)) ∈ gtb := gtb_mem 580 (by decide +kernel) rfl
set_option maxRecDepth 20000 in
theorem kw_531 : (Jvm.Cond.code ({ cls := "ManyHands$Hand", name := "includeReady", desc := "()I" } : Jvm.MethodName) prog_3_method_8_code (5 : Nat) (Option.some Jvm.ClassFile.FieldType.int)) ∈ gtb := gtb_mem 581 (by exact rfl) rfl
theorem kw_532 : (Jvm.Cond.methodLink "ManyHands$Hand" (96 : Nat) ({ cls := "ManyHands$Reach", name := "covers", desc := "(LManyHands$Reach;)Z" } : Jvm.MethodName)) ∈ gtb := gtb_mem 582 (by decide +kernel) rfl
theorem kw_533 : (Jvm.Cond.instanceMethod ({ cls := "ManyHands$Reach", name := "covers", desc := "(LManyHands$Reach;)Z" } : Jvm.MethodName)) ∈ gtb := gtb_mem 583 (by decide +kernel) rfl
theorem kw_534 : (Jvm.Cond.selects "ManyHands$Reach" ({ cls := "ManyHands$Reach", name := "covers", desc := "(LManyHands$Reach;)Z" } : Jvm.MethodName) ({ cls := "ManyHands$Reach", name := "covers", desc := "(LManyHands$Reach;)Z" } : Jvm.MethodName)) ∈ gtb := gtb_mem 584 (by decide +kernel) rfl
set_option maxRecDepth 20000 in
theorem kw_535 : (Jvm.Cond.code ({ cls := "ManyHands$Reach", name := "covers", desc := "(LManyHands$Reach;)Z" } : Jvm.MethodName) prog_6_method_3_code (3 : Nat) (Option.some Jvm.ClassFile.FieldType.boolean)) ∈ gtb := gtb_mem 585 (by exact rfl) rfl
theorem kw_536 : (Jvm.Cond.methodLink "ManyHands$Hand" (100 : Nat) ({ cls := "ManyHands$Hand", name := "include", desc := "(LManyHands$Entry;)V" } : Jvm.MethodName)) ∈ gtb := gtb_mem 586 (by decide +kernel) rfl
theorem kw_537 : (Jvm.Cond.methodLink "ManyHands$Hand" (103 : Nat) ({ cls := "java/util/ArrayList", name := "remove", desc := "(I)Ljava/lang/Object;" } : Jvm.MethodName)) ∈ gtb := gtb_mem 587 (by decide +kernel) rfl
theorem kw_538 : (Jvm.Cond.instanceMethod ({ cls := "java/util/ArrayList", name := "remove", desc := "(I)Ljava/lang/Object;" } : Jvm.MethodName)) ∈ gtb := gtb_mem 588 (by decide +kernel) rfl
theorem kw_539 : (Jvm.Cond.selects "java/util/ArrayList" ({ cls := "java/util/ArrayList", name := "remove", desc := "(I)Ljava/lang/Object;" } : Jvm.MethodName) ({ cls := "java/util/ArrayList", name := "remove", desc := "(I)Ljava/lang/Object;" } : Jvm.MethodName)) ∈ gtb := gtb_mem 589 (by decide +kernel) rfl
set_option maxRecDepth 20000 in
theorem kw_540 : (Jvm.Cond.code ({ cls := "java/util/ArrayList", name := "remove", desc := "(I)Ljava/lang/Object;" } : Jvm.MethodName) prog_17_method_29_code (4 : Nat) (Option.some (Jvm.ClassFile.FieldType.object "java/lang/Object"))) ∈ gtb := gtb_mem 590 (by exact rfl) rfl
theorem kw_541 : (Jvm.Cond.methodLink "java/util/ArrayList" (144 : Nat) ({ cls := "java/util/ArrayList", name := "fastRemove", desc := "([Ljava/lang/Object;I)V" } : Jvm.MethodName)) ∈ gtb := gtb_mem 591 (by decide +kernel) rfl
theorem kw_543 : (Jvm.Cond.instanceMethod ({ cls := "java/util/ArrayList", name := "fastRemove", desc := "([Ljava/lang/Object;I)V" } : Jvm.MethodName)) ∈ gtb := gtb_mem 593 (by decide +kernel) rfl
set_option maxRecDepth 20000 in
theorem kw_544 : (Jvm.Cond.code ({ cls := "java/util/ArrayList", name := "fastRemove", desc := "([Ljava/lang/Object;I)V" } : Jvm.MethodName) prog_17_method_39_code (4 : Nat) (Option.none : Option Jvm.ClassFile.FieldType)) ∈ gtb := gtb_mem 594 (by exact rfl) rfl
theorem kw_545 : (Jvm.Cond.methodLink "ManyHandsLaw" (78 : Nat) ({ cls := "ManyHands", name := "meet", desc := "(III)I" } : Jvm.MethodName)) ∈ gtb := gtb_mem 595 (by decide +kernel) rfl
theorem kw_546 : (Jvm.Cond.instanceMethod ({ cls := "ManyHands", name := "meet", desc := "(III)I" } : Jvm.MethodName)) ∈ gtb := gtb_mem 596 (by decide +kernel) rfl
theorem kw_547 : (Jvm.Cond.selects "ManyHands" ({ cls := "ManyHands", name := "meet", desc := "(III)I" } : Jvm.MethodName) ({ cls := "ManyHands", name := "meet", desc := "(III)I" } : Jvm.MethodName)) ∈ gtb := gtb_mem 597 (by decide +kernel) rfl
set_option maxRecDepth 20000 in
theorem kw_548 : (Jvm.Cond.code ({ cls := "ManyHands", name := "meet", desc := "(III)I" } : Jvm.MethodName) prog_1_method_16_code (9 : Nat) (Option.some Jvm.ClassFile.FieldType.int)) ∈ gtb := gtb_mem 598 (by exact rfl) rfl
theorem kw_549 : (Jvm.Cond.methodLink "ManyHands" (153 : Nat) ({ cls := "java/lang/Math", name := "min", desc := "(II)I" } : Jvm.MethodName)) ∈ gtb := gtb_mem 599 (by decide +kernel) rfl
theorem kw_550 : (Jvm.Cond.methodLink "ManyHands" (159 : Nat) ({ cls := "ManyHands", name := "leastLacking", desc := "(LManyHands$Hand;LManyHands$Hand;)LManyHands$Entry;" } : Jvm.MethodName)) ∈ gtb := gtb_mem 600 (by decide +kernel) rfl
theorem kw_552 : (Jvm.Cond.instanceMethod ({ cls := "ManyHands", name := "leastLacking", desc := "(LManyHands$Hand;LManyHands$Hand;)LManyHands$Entry;" } : Jvm.MethodName)) ∈ gtb := gtb_mem 602 (by decide +kernel) rfl
set_option maxRecDepth 20000 in
theorem kw_553 : (Jvm.Cond.code ({ cls := "ManyHands", name := "leastLacking", desc := "(LManyHands$Hand;LManyHands$Hand;)LManyHands$Entry;" } : Jvm.MethodName) prog_1_method_57_code (7 : Nat) (Option.some (Jvm.ClassFile.FieldType.object "ManyHands$Entry"))) ∈ gtb := gtb_mem 603 (by exact rfl) rfl
theorem kw_554 : (Jvm.Cond.methodLink "ManyHands" (309 : Nat) ({ cls := "ManyHands$Hand", name := "ownAt", desc := "(I)LManyHands$Entry;" } : Jvm.MethodName)) ∈ gtb := gtb_mem 604 (by decide +kernel) rfl
theorem kw_555 : (Jvm.Cond.instanceMethod ({ cls := "ManyHands$Hand", name := "ownAt", desc := "(I)LManyHands$Entry;" } : Jvm.MethodName)) ∈ gtb := gtb_mem 605 (by decide +kernel) rfl
theorem kw_556 : (Jvm.Cond.selects "ManyHands$Hand" ({ cls := "ManyHands$Hand", name := "ownAt", desc := "(I)LManyHands$Entry;" } : Jvm.MethodName) ({ cls := "ManyHands$Hand", name := "ownAt", desc := "(I)LManyHands$Entry;" } : Jvm.MethodName)) ∈ gtb := gtb_mem 606 (by decide +kernel) rfl
set_option maxRecDepth 20000 in
theorem kw_557 : (Jvm.Cond.code ({ cls := "ManyHands$Hand", name := "ownAt", desc := "(I)LManyHands$Entry;" } : Jvm.MethodName) prog_3_method_3_code (2 : Nat) (Option.some (Jvm.ClassFile.FieldType.object "ManyHands$Entry"))) ∈ gtb := gtb_mem 607 (by exact rfl) rfl
theorem kw_558 : (Jvm.Cond.methodLink "ManyHands" (312 : Nat) ({ cls := "ManyHands$Entry", name := "isBelow", desc := "(LManyHands$Entry;)Z" } : Jvm.MethodName)) ∈ gtb := gtb_mem 608 (by decide +kernel) rfl
theorem kw_559 : (Jvm.Cond.methodLink "ManyHandsLaw" (82 : Nat) ({ cls := "ManyHands", name := "lose", desc := "(I)I" } : Jvm.MethodName)) ∈ gtb := gtb_mem 609 (by decide +kernel) rfl
theorem kw_560 : (Jvm.Cond.instanceMethod ({ cls := "ManyHands", name := "lose", desc := "(I)I" } : Jvm.MethodName)) ∈ gtb := gtb_mem 610 (by decide +kernel) rfl
theorem kw_561 : (Jvm.Cond.selects "ManyHands" ({ cls := "ManyHands", name := "lose", desc := "(I)I" } : Jvm.MethodName) ({ cls := "ManyHands", name := "lose", desc := "(I)I" } : Jvm.MethodName)) ∈ gtb := gtb_mem 611 (by decide +kernel) rfl
set_option maxRecDepth 20000 in
theorem kw_562 : (Jvm.Cond.code ({ cls := "ManyHands", name := "lose", desc := "(I)I" } : Jvm.MethodName) prog_1_method_17_code (3 : Nat) (Option.some Jvm.ClassFile.FieldType.int)) ∈ gtb := gtb_mem 612 (by exact rfl) rfl
theorem kw_563 : (Jvm.Cond.methodLink "ManyHands" (163 : Nat) ({ cls := "ManyHands$Hand", name := "forget", desc := "()I" } : Jvm.MethodName)) ∈ gtb := gtb_mem 613 (by decide +kernel) rfl
theorem kw_564 : (Jvm.Cond.instanceMethod ({ cls := "ManyHands$Hand", name := "forget", desc := "()I" } : Jvm.MethodName)) ∈ gtb := gtb_mem 614 (by decide +kernel) rfl
theorem kw_565 : (Jvm.Cond.selects "ManyHands$Hand" ({ cls := "ManyHands$Hand", name := "forget", desc := "()I" } : Jvm.MethodName) ({ cls := "ManyHands$Hand", name := "forget", desc := "()I" } : Jvm.MethodName)) ∈ gtb := gtb_mem 615 (by decide +kernel) rfl
set_option maxRecDepth 20000 in
theorem kw_566 : (Jvm.Cond.code ({ cls := "ManyHands$Hand", name := "forget", desc := "()I" } : Jvm.MethodName) prog_3_method_9_code (3 : Nat) (Option.some Jvm.ClassFile.FieldType.int)) ∈ gtb := gtb_mem 616 (by exact rfl) rfl
theorem kw_567 : (Jvm.Cond.methodLink "ManyHands$Hand" (106 : Nat) ({ cls := "ManyHands$Reach", name := "size", desc := "()I" } : Jvm.MethodName)) ∈ gtb := gtb_mem 617 (by decide +kernel) rfl
theorem kw_568 : (Jvm.Cond.methodLink "ManyHands$Hand" (107 : Nat) ({ cls := "ManyHands$Reach", name := "empty", desc := "()V" } : Jvm.MethodName)) ∈ gtb := gtb_mem 618 (by decide +kernel) rfl
theorem kw_569 : (Jvm.Cond.methodLink "ManyHands$Hand" (110 : Nat) ({ cls := "java/util/ArrayList", name := "clear", desc := "()V" } : Jvm.MethodName)) ∈ gtb := gtb_mem 619 (by decide +kernel) rfl
theorem kw_570 : (Jvm.Cond.instanceMethod ({ cls := "java/util/ArrayList", name := "clear", desc := "()V" } : Jvm.MethodName)) ∈ gtb := gtb_mem 620 (by decide +kernel) rfl
theorem kw_571 : (Jvm.Cond.selects "java/util/ArrayList" ({ cls := "java/util/ArrayList", name := "clear", desc := "()V" } : Jvm.MethodName) ({ cls := "java/util/ArrayList", name := "clear", desc := "()V" } : Jvm.MethodName)) ∈ gtb := gtb_mem 621 (by decide +kernel) rfl
set_option maxRecDepth 20000 in
theorem kw_572 : (Jvm.Cond.code ({ cls := "java/util/ArrayList", name := "clear", desc := "()V" } : Jvm.MethodName) prog_17_method_40_code (4 : Nat) (Option.none : Option Jvm.ClassFile.FieldType)) ∈ gtb := gtb_mem 622 (by exact rfl) rfl
theorem kw_573 : (Jvm.Cond.methodLink "ManyHandsLaw" (86 : Nat) ({ cls := "ManyHands", name := "told", desc := "(II)I" } : Jvm.MethodName)) ∈ gtb := gtb_mem 623 (by decide +kernel) rfl
theorem kw_574 : (Jvm.Cond.instanceMethod ({ cls := "ManyHands", name := "told", desc := "(II)I" } : Jvm.MethodName)) ∈ gtb := gtb_mem 624 (by decide +kernel) rfl
theorem kw_575 : (Jvm.Cond.selects "ManyHands" ({ cls := "ManyHands", name := "told", desc := "(II)I" } : Jvm.MethodName) ({ cls := "ManyHands", name := "told", desc := "(II)I" } : Jvm.MethodName)) ∈ gtb := gtb_mem 625 (by decide +kernel) rfl
set_option maxRecDepth 20000 in
theorem kw_576 : (Jvm.Cond.code ({ cls := "ManyHands", name := "told", desc := "(II)I" } : Jvm.MethodName) prog_1_method_18_code (4 : Nat) (Option.some Jvm.ClassFile.FieldType.int)) ∈ gtb := gtb_mem 626 (by exact rfl) rfl
theorem kw_577 : (Jvm.Cond.methodLink "ManyHands" (166 : Nat) ({ cls := "ManyHands$Hand", name := "report", desc := "(I)I" } : Jvm.MethodName)) ∈ gtb := gtb_mem 627 (by decide +kernel) rfl
theorem kw_578 : (Jvm.Cond.instanceMethod ({ cls := "ManyHands$Hand", name := "report", desc := "(I)I" } : Jvm.MethodName)) ∈ gtb := gtb_mem 628 (by decide +kernel) rfl
theorem kw_579 : (Jvm.Cond.selects "ManyHands$Hand" ({ cls := "ManyHands$Hand", name := "report", desc := "(I)I" } : Jvm.MethodName) ({ cls := "ManyHands$Hand", name := "report", desc := "(I)I" } : Jvm.MethodName)) ∈ gtb := gtb_mem 629 (by decide +kernel) rfl
set_option maxRecDepth 20000 in
theorem kw_580 : (Jvm.Cond.code ({ cls := "ManyHands$Hand", name := "report", desc := "(I)I" } : Jvm.MethodName) prog_3_method_10_code (2 : Nat) (Option.some Jvm.ClassFile.FieldType.int)) ∈ gtb := gtb_mem 630 (by exact rfl) rfl
theorem kw_581 : (Jvm.Cond.methodLink "ManyHandsLaw" (90 : Nat) ({ cls := "ManyHands", name := "has", desc := "(II)I" } : Jvm.MethodName)) ∈ gtb := gtb_mem 631 (by decide +kernel) rfl
theorem kw_582 : (Jvm.Cond.instanceMethod ({ cls := "ManyHands", name := "has", desc := "(II)I" } : Jvm.MethodName)) ∈ gtb := gtb_mem 632 (by decide +kernel) rfl
theorem kw_583 : (Jvm.Cond.selects "ManyHands" ({ cls := "ManyHands", name := "has", desc := "(II)I" } : Jvm.MethodName) ({ cls := "ManyHands", name := "has", desc := "(II)I" } : Jvm.MethodName)) ∈ gtb := gtb_mem 633 (by decide +kernel) rfl
set_option maxRecDepth 20000 in
theorem kw_584 : (Jvm.Cond.code ({ cls := "ManyHands", name := "has", desc := "(II)I" } : Jvm.MethodName) prog_1_method_19_code (5 : Nat) (Option.some Jvm.ClassFile.FieldType.int)) ∈ gtb := gtb_mem 634 (by exact rfl) rfl
theorem kw_585 : (Jvm.Cond.methodLink "ManyHands" (169 : Nat) ({ cls := "ManyHands$Hand", name := "awaits", desc := "(LManyHands$Entry;)Z" } : Jvm.MethodName)) ∈ gtb := gtb_mem 635 (by decide +kernel) rfl
theorem kw_586 : (Jvm.Cond.methodLink "ManyHandsLaw" (94 : Nat) ({ cls := "ManyHands", name := "compare", desc := "(II)I" } : Jvm.MethodName)) ∈ gtb := gtb_mem 636 (by decide +kernel) rfl
theorem kw_587 : (Jvm.Cond.instanceMethod ({ cls := "ManyHands", name := "compare", desc := "(II)I" } : Jvm.MethodName)) ∈ gtb := gtb_mem 637 (by decide +kernel) rfl
theorem kw_588 : (Jvm.Cond.selects "ManyHands" ({ cls := "ManyHands", name := "compare", desc := "(II)I" } : Jvm.MethodName) ({ cls := "ManyHands", name := "compare", desc := "(II)I" } : Jvm.MethodName)) ∈ gtb := gtb_mem 638 (by decide +kernel) rfl
set_option maxRecDepth 20000 in
theorem kw_589 : (Jvm.Cond.code ({ cls := "ManyHands", name := "compare", desc := "(II)I" } : Jvm.MethodName) prog_1_method_20_code (7 : Nat) (Option.some Jvm.ClassFile.FieldType.int)) ∈ gtb := gtb_mem 639 (by exact rfl) rfl
theorem kw_590 : (Jvm.Cond.methodLink "ManyHands" (172 : Nat) ({ cls := "ManyHands$Reach", name := "covers", desc := "(LManyHands$Reach;)Z" } : Jvm.MethodName)) ∈ gtb := gtb_mem 640 (by decide +kernel) rfl
theorem kw_591 : (Jvm.Cond.methodLink "ManyHandsLaw" (98 : Nat) ({ cls := "ManyHands", name := "value", desc := "(II)I" } : Jvm.MethodName)) ∈ gtb := gtb_mem 641 (by decide +kernel) rfl
theorem kw_592 : (Jvm.Cond.instanceMethod ({ cls := "ManyHands", name := "value", desc := "(II)I" } : Jvm.MethodName)) ∈ gtb := gtb_mem 642 (by decide +kernel) rfl
theorem kw_593 : (Jvm.Cond.selects "ManyHands" ({ cls := "ManyHands", name := "value", desc := "(II)I" } : Jvm.MethodName) ({ cls := "ManyHands", name := "value", desc := "(II)I" } : Jvm.MethodName)) ∈ gtb := gtb_mem 643 (by decide +kernel) rfl
set_option maxRecDepth 20000 in
theorem kw_594 : (Jvm.Cond.code ({ cls := "ManyHands", name := "value", desc := "(II)I" } : Jvm.MethodName) prog_1_method_21_code (7 : Nat) (Option.some Jvm.ClassFile.FieldType.int)) ∈ gtb := gtb_mem 644 (by exact rfl) rfl
theorem kw_595 : (Jvm.Cond.methodLink "ManyHands" (179 : Nat) ({ cls := "ManyHands$Page", name := "foremost", desc := "(LManyHands$Reach;)LManyHands$Entry;" } : Jvm.MethodName)) ∈ gtb := gtb_mem 645 (by decide +kernel) rfl
theorem kw_596 : (Jvm.Cond.instanceMethod ({ cls := "ManyHands$Page", name := "foremost", desc := "(LManyHands$Reach;)LManyHands$Entry;" } : Jvm.MethodName)) ∈ gtb := gtb_mem 646 (by decide +kernel) rfl
theorem kw_597 : (Jvm.Cond.selects "ManyHands$Page" ({ cls := "ManyHands$Page", name := "foremost", desc := "(LManyHands$Reach;)LManyHands$Entry;" } : Jvm.MethodName) ({ cls := "ManyHands$Page", name := "foremost", desc := "(LManyHands$Reach;)LManyHands$Entry;" } : Jvm.MethodName)) ∈ gtb := gtb_mem 647 (by decide +kernel) rfl
set_option maxRecDepth 20000 in
theorem kw_598 : (Jvm.Cond.code ({ cls := "ManyHands$Page", name := "foremost", desc := "(LManyHands$Reach;)LManyHands$Entry;" } : Jvm.MethodName) prog_5_method_5_code (4 : Nat) (Option.some (Jvm.ClassFile.FieldType.object "ManyHands$Entry"))) ∈ gtb := gtb_mem 648 (by exact rfl) rfl
theorem kw_599 : (Jvm.Cond.methodLink "ManyHands$Page" (46 : Nat) ({ cls := "ManyHands$Entry", name := "isBelow", desc := "(LManyHands$Entry;)Z" } : Jvm.MethodName)) ∈ gtb := gtb_mem 649 (by decide +kernel) rfl
theorem kw_600 : (Jvm.Cond.methodLink "ManyHands" (188 : Nat) ({ cls := "ManyHands", name := "tellAnd", desc := "(JI)I" } : Jvm.MethodName)) ∈ gtb := gtb_mem 650 (by decide +kernel) rfl
theorem kw_602 : (Jvm.Cond.instanceMethod ({ cls := "ManyHands", name := "tellAnd", desc := "(JI)I" } : Jvm.MethodName)) ∈ gtb := gtb_mem 652 (by decide +kernel) rfl
set_option maxRecDepth 20000 in
theorem kw_603 : (Jvm.Cond.code ({ cls := "ManyHands", name := "tellAnd", desc := "(JI)I" } : Jvm.MethodName) prog_1_method_50_code (4 : Nat) (Option.some Jvm.ClassFile.FieldType.int)) ∈ gtb := gtb_mem 653 (by exact rfl) rfl
theorem kw_604 : (Jvm.Cond.methodLink "ManyHandsLaw" (102 : Nat) ({ cls := "ManyHands", name := "sum", desc := "(II)I" } : Jvm.MethodName)) ∈ gtb := gtb_mem 654 (by decide +kernel) rfl
theorem kw_605 : (Jvm.Cond.instanceMethod ({ cls := "ManyHands", name := "sum", desc := "(II)I" } : Jvm.MethodName)) ∈ gtb := gtb_mem 655 (by decide +kernel) rfl
theorem kw_606 : (Jvm.Cond.selects "ManyHands" ({ cls := "ManyHands", name := "sum", desc := "(II)I" } : Jvm.MethodName) ({ cls := "ManyHands", name := "sum", desc := "(II)I" } : Jvm.MethodName)) ∈ gtb := gtb_mem 656 (by decide +kernel) rfl
set_option maxRecDepth 20000 in
theorem kw_607 : (Jvm.Cond.code ({ cls := "ManyHands", name := "sum", desc := "(II)I" } : Jvm.MethodName) prog_1_method_22_code (6 : Nat) (Option.some Jvm.ClassFile.FieldType.int)) ∈ gtb := gtb_mem 657 (by exact rfl) rfl
theorem kw_608 : (Jvm.Cond.methodLink "ManyHands" (192 : Nat) ({ cls := "ManyHands$Page", name := "total", desc := "(LManyHands$Reach;)J" } : Jvm.MethodName)) ∈ gtb := gtb_mem 658 (by decide +kernel) rfl
theorem kw_609 : (Jvm.Cond.instanceMethod ({ cls := "ManyHands$Page", name := "total", desc := "(LManyHands$Reach;)J" } : Jvm.MethodName)) ∈ gtb := gtb_mem 659 (by decide +kernel) rfl
theorem kw_610 : (Jvm.Cond.selects "ManyHands$Page" ({ cls := "ManyHands$Page", name := "total", desc := "(LManyHands$Reach;)J" } : Jvm.MethodName) ({ cls := "ManyHands$Page", name := "total", desc := "(LManyHands$Reach;)J" } : Jvm.MethodName)) ∈ gtb := gtb_mem 660 (by decide +kernel) rfl
set_option maxRecDepth 20000 in
theorem kw_611 : (Jvm.Cond.code ({ cls := "ManyHands$Page", name := "total", desc := "(LManyHands$Reach;)J" } : Jvm.MethodName) prog_5_method_8_code (5 : Nat) (Option.some Jvm.ClassFile.FieldType.long)) ∈ gtb := gtb_mem 661 (by exact rfl) rfl
theorem kw_612 : (Jvm.Cond.methodLink "ManyHands$Page" (56 : Nat) ({ cls := "ManyHands$Entry", name := "addedToSum", desc := "()J" } : Jvm.MethodName)) ∈ gtb := gtb_mem 662 (by decide +kernel) rfl
theorem kw_613 : (Jvm.Cond.instanceMethod ({ cls := "ManyHands$Entry", name := "addedToSum", desc := "()J" } : Jvm.MethodName)) ∈ gtb := gtb_mem 663 (by decide +kernel) rfl
theorem kw_614 : (Jvm.Cond.selects "ManyHands$Entry" ({ cls := "ManyHands$Entry", name := "addedToSum", desc := "()J" } : Jvm.MethodName) ({ cls := "ManyHands$Entry", name := "addedToSum", desc := "()J" } : Jvm.MethodName)) ∈ gtb := gtb_mem 664 (by decide +kernel) rfl
set_option maxRecDepth 20000 in
theorem kw_615 : (Jvm.Cond.code ({ cls := "ManyHands$Entry", name := "addedToSum", desc := "()J" } : Jvm.MethodName) prog_2_method_4_code (1 : Nat) (Option.some Jvm.ClassFile.FieldType.long)) ∈ gtb := gtb_mem 665 (by exact rfl) rfl
theorem kw_616 : (Jvm.Cond.methodLink "ManyHands" (196 : Nat) ({ cls := "ManyHands$Page", name := "size", desc := "(LManyHands$Reach;)I" } : Jvm.MethodName)) ∈ gtb := gtb_mem 666 (by decide +kernel) rfl
theorem kw_617 : (Jvm.Cond.instanceMethod ({ cls := "ManyHands$Page", name := "size", desc := "(LManyHands$Reach;)I" } : Jvm.MethodName)) ∈ gtb := gtb_mem 667 (by decide +kernel) rfl
theorem kw_618 : (Jvm.Cond.selects "ManyHands$Page" ({ cls := "ManyHands$Page", name := "size", desc := "(LManyHands$Reach;)I" } : Jvm.MethodName) ({ cls := "ManyHands$Page", name := "size", desc := "(LManyHands$Reach;)I" } : Jvm.MethodName)) ∈ gtb := gtb_mem 668 (by decide +kernel) rfl
set_option maxRecDepth 20000 in
theorem kw_619 : (Jvm.Cond.code ({ cls := "ManyHands$Page", name := "size", desc := "(LManyHands$Reach;)I" } : Jvm.MethodName) prog_5_method_6_code (4 : Nat) (Option.some Jvm.ClassFile.FieldType.int)) ∈ gtb := gtb_mem 669 (by exact rfl) rfl
theorem kw_620 : (Jvm.Cond.methodLink "ManyHandsLaw" (106 : Nat) ({ cls := "ManyHands", name := "mean", desc := "(II)I" } : Jvm.MethodName)) ∈ gtb := gtb_mem 670 (by decide +kernel) rfl
theorem kw_621 : (Jvm.Cond.instanceMethod ({ cls := "ManyHands", name := "mean", desc := "(II)I" } : Jvm.MethodName)) ∈ gtb := gtb_mem 671 (by decide +kernel) rfl
theorem kw_622 : (Jvm.Cond.selects "ManyHands" ({ cls := "ManyHands", name := "mean", desc := "(II)I" } : Jvm.MethodName) ({ cls := "ManyHands", name := "mean", desc := "(II)I" } : Jvm.MethodName)) ∈ gtb := gtb_mem 672 (by decide +kernel) rfl
set_option maxRecDepth 20000 in
theorem kw_623 : (Jvm.Cond.code ({ cls := "ManyHands", name := "mean", desc := "(II)I" } : Jvm.MethodName) prog_1_method_23_code (7 : Nat) (Option.some Jvm.ClassFile.FieldType.int)) ∈ gtb := gtb_mem 673 (by exact rfl) rfl
theorem kw_624 : (Jvm.Cond.methodLink "ManyHandsLaw" (110 : Nat) ({ cls := "ManyHands", name := "often", desc := "(III)I" } : Jvm.MethodName)) ∈ gtb := gtb_mem 674 (by decide +kernel) rfl
theorem kw_625 : (Jvm.Cond.instanceMethod ({ cls := "ManyHands", name := "often", desc := "(III)I" } : Jvm.MethodName)) ∈ gtb := gtb_mem 675 (by decide +kernel) rfl
theorem kw_626 : (Jvm.Cond.selects "ManyHands" ({ cls := "ManyHands", name := "often", desc := "(III)I" } : Jvm.MethodName) ({ cls := "ManyHands", name := "often", desc := "(III)I" } : Jvm.MethodName)) ∈ gtb := gtb_mem 676 (by decide +kernel) rfl
set_option maxRecDepth 20000 in
theorem kw_627 : (Jvm.Cond.code ({ cls := "ManyHands", name := "often", desc := "(III)I" } : Jvm.MethodName) prog_1_method_24_code (7 : Nat) (Option.some Jvm.ClassFile.FieldType.int)) ∈ gtb := gtb_mem 677 (by exact rfl) rfl
theorem kw_628 : (Jvm.Cond.methodLink "ManyHandsLaw" (114 : Nat) ({ cls := "ManyHands", name := "inside", desc := "(III)I" } : Jvm.MethodName)) ∈ gtb := gtb_mem 678 (by decide +kernel) rfl
theorem kw_629 : (Jvm.Cond.instanceMethod ({ cls := "ManyHands", name := "inside", desc := "(III)I" } : Jvm.MethodName)) ∈ gtb := gtb_mem 679 (by decide +kernel) rfl
theorem kw_630 : (Jvm.Cond.selects "ManyHands" ({ cls := "ManyHands", name := "inside", desc := "(III)I" } : Jvm.MethodName) ({ cls := "ManyHands", name := "inside", desc := "(III)I" } : Jvm.MethodName)) ∈ gtb := gtb_mem 680 (by decide +kernel) rfl
set_option maxRecDepth 20000 in
theorem kw_631 : (Jvm.Cond.code ({ cls := "ManyHands", name := "inside", desc := "(III)I" } : Jvm.MethodName) prog_1_method_25_code (8 : Nat) (Option.some Jvm.ClassFile.FieldType.int)) ∈ gtb := gtb_mem 681 (by exact rfl) rfl
theorem kw_632 : (Jvm.Cond.methodLink "ManyHands" (199 : Nat) ({ cls := "ManyHands$Page", name := "thingAt", desc := "(LManyHands$Reach;I)I" } : Jvm.MethodName)) ∈ gtb := gtb_mem 682 (by decide +kernel) rfl
theorem kw_633 : (Jvm.Cond.instanceMethod ({ cls := "ManyHands$Page", name := "thingAt", desc := "(LManyHands$Reach;I)I" } : Jvm.MethodName)) ∈ gtb := gtb_mem 683 (by decide +kernel) rfl
theorem kw_634 : (Jvm.Cond.selects "ManyHands$Page" ({ cls := "ManyHands$Page", name := "thingAt", desc := "(LManyHands$Reach;I)I" } : Jvm.MethodName) ({ cls := "ManyHands$Page", name := "thingAt", desc := "(LManyHands$Reach;I)I" } : Jvm.MethodName)) ∈ gtb := gtb_mem 684 (by decide +kernel) rfl
set_option maxRecDepth 20000 in
theorem kw_635 : (Jvm.Cond.code ({ cls := "ManyHands$Page", name := "thingAt", desc := "(LManyHands$Reach;I)I" } : Jvm.MethodName) prog_5_method_13_code (5 : Nat) (Option.some Jvm.ClassFile.FieldType.int)) ∈ gtb := gtb_mem 685 (by exact rfl) rfl
theorem kw_636 : (Jvm.Cond.methodLink "ManyHands$Page" (80 : Nat) ({ cls := "ManyHands$Page", name := "timesIn", desc := "(LManyHands$Reach;I)I" } : Jvm.MethodName)) ∈ gtb := gtb_mem 686 (by decide +kernel) rfl
theorem kw_637 : (Jvm.Cond.methodLink "ManyHandsLaw" (118 : Nat) ({ cls := "ManyHands", name := "heads", desc := "(II)I" } : Jvm.MethodName)) ∈ gtb := gtb_mem 687 (by decide +kernel) rfl
theorem kw_638 : (Jvm.Cond.instanceMethod ({ cls := "ManyHands", name := "heads", desc := "(II)I" } : Jvm.MethodName)) ∈ gtb := gtb_mem 688 (by decide +kernel) rfl
theorem kw_639 : (Jvm.Cond.selects "ManyHands" ({ cls := "ManyHands", name := "heads", desc := "(II)I" } : Jvm.MethodName) ({ cls := "ManyHands", name := "heads", desc := "(II)I" } : Jvm.MethodName)) ∈ gtb := gtb_mem 689 (by decide +kernel) rfl
set_option maxRecDepth 20000 in
theorem kw_640 : (Jvm.Cond.code ({ cls := "ManyHands", name := "heads", desc := "(II)I" } : Jvm.MethodName) prog_1_method_26_code (6 : Nat) (Option.some Jvm.ClassFile.FieldType.int)) ∈ gtb := gtb_mem 690 (by exact rfl) rfl
theorem kw_641 : (Jvm.Cond.methodLink "ManyHands" (202 : Nat) ({ cls := "ManyHands$Page", name := "headCount", desc := "(LManyHands$Reach;)I" } : Jvm.MethodName)) ∈ gtb := gtb_mem 691 (by decide +kernel) rfl
theorem kw_642 : (Jvm.Cond.instanceMethod ({ cls := "ManyHands$Page", name := "headCount", desc := "(LManyHands$Reach;)I" } : Jvm.MethodName)) ∈ gtb := gtb_mem 692 (by decide +kernel) rfl
theorem kw_643 : (Jvm.Cond.selects "ManyHands$Page" ({ cls := "ManyHands$Page", name := "headCount", desc := "(LManyHands$Reach;)I" } : Jvm.MethodName) ({ cls := "ManyHands$Page", name := "headCount", desc := "(LManyHands$Reach;)I" } : Jvm.MethodName)) ∈ gtb := gtb_mem 693 (by decide +kernel) rfl
set_option maxRecDepth 20000 in
theorem kw_644 : (Jvm.Cond.code ({ cls := "ManyHands$Page", name := "headCount", desc := "(LManyHands$Reach;)I" } : Jvm.MethodName) prog_5_method_14_code (2 : Nat) (Option.some Jvm.ClassFile.FieldType.int)) ∈ gtb := gtb_mem 694 (by exact rfl) rfl
theorem kw_645 : (Jvm.Cond.methodLink "ManyHandsLaw" (122 : Nat) ({ cls := "ManyHands", name := "head", desc := "(III)I" } : Jvm.MethodName)) ∈ gtb := gtb_mem 695 (by decide +kernel) rfl
theorem kw_646 : (Jvm.Cond.instanceMethod ({ cls := "ManyHands", name := "head", desc := "(III)I" } : Jvm.MethodName)) ∈ gtb := gtb_mem 696 (by decide +kernel) rfl
theorem kw_647 : (Jvm.Cond.selects "ManyHands" ({ cls := "ManyHands", name := "head", desc := "(III)I" } : Jvm.MethodName) ({ cls := "ManyHands", name := "head", desc := "(III)I" } : Jvm.MethodName)) ∈ gtb := gtb_mem 697 (by decide +kernel) rfl
set_option maxRecDepth 20000 in
theorem kw_648 : (Jvm.Cond.code ({ cls := "ManyHands", name := "head", desc := "(III)I" } : Jvm.MethodName) prog_1_method_27_code (8 : Nat) (Option.some Jvm.ClassFile.FieldType.int)) ∈ gtb := gtb_mem 698 (by exact rfl) rfl
theorem kw_649 : (Jvm.Cond.methodLink "ManyHands" (205 : Nat) ({ cls := "ManyHands$Page", name := "headAt", desc := "(LManyHands$Reach;I)LManyHands$Entry;" } : Jvm.MethodName)) ∈ gtb := gtb_mem 699 (by decide +kernel) rfl
theorem kw_650 : (Jvm.Cond.instanceMethod ({ cls := "ManyHands$Page", name := "headAt", desc := "(LManyHands$Reach;I)LManyHands$Entry;" } : Jvm.MethodName)) ∈ gtb := gtb_mem 700 (by decide +kernel) rfl
theorem kw_651 : (Jvm.Cond.selects "ManyHands$Page" ({ cls := "ManyHands$Page", name := "headAt", desc := "(LManyHands$Reach;I)LManyHands$Entry;" } : Jvm.MethodName) ({ cls := "ManyHands$Page", name := "headAt", desc := "(LManyHands$Reach;I)LManyHands$Entry;" } : Jvm.MethodName)) ∈ gtb := gtb_mem 701 (by decide +kernel) rfl
set_option maxRecDepth 20000 in
theorem kw_652 : (Jvm.Cond.code ({ cls := "ManyHands$Page", name := "headAt", desc := "(LManyHands$Reach;I)LManyHands$Entry;" } : Jvm.MethodName) prog_5_method_15_code (5 : Nat) (Option.some (Jvm.ClassFile.FieldType.object "ManyHands$Entry"))) ∈ gtb := gtb_mem 702 (by exact rfl) rfl
theorem kw_653 : (Jvm.Cond.methodLink "ManyHands$Page" (84 : Nat) ({ cls := "ManyHands$Page", name := "headCount", desc := "(LManyHands$Reach;)I" } : Jvm.MethodName)) ∈ gtb := gtb_mem 703 (by decide +kernel) rfl
theorem kw_654 : (Jvm.Cond.methodLink "ManyHands$Page" (88 : Nat) ({ cls := "ManyHands$Page", name := "headAbove", desc := "(LManyHands$Reach;LManyHands$Entry;)LManyHands$Entry;" } : Jvm.MethodName)) ∈ gtb := gtb_mem 704 (by decide +kernel) rfl
theorem kw_656 : (Jvm.Cond.instanceMethod ({ cls := "ManyHands$Page", name := "headAbove", desc := "(LManyHands$Reach;LManyHands$Entry;)LManyHands$Entry;" } : Jvm.MethodName)) ∈ gtb := gtb_mem 706 (by decide +kernel) rfl
set_option maxRecDepth 20000 in
theorem kw_657 : (Jvm.Cond.code ({ cls := "ManyHands$Page", name := "headAbove", desc := "(LManyHands$Reach;LManyHands$Entry;)LManyHands$Entry;" } : Jvm.MethodName) prog_5_method_16_code (6 : Nat) (Option.some (Jvm.ClassFile.FieldType.object "ManyHands$Entry"))) ∈ gtb := gtb_mem 707 (by exact rfl) rfl
theorem kw_658 : (Jvm.Cond.methodLink "ManyHandsLaw" (126 : Nat) ({ cls := "ManyHands", name := "rights", desc := "(III)I" } : Jvm.MethodName)) ∈ gtb := gtb_mem 708 (by decide +kernel) rfl
theorem kw_659 : (Jvm.Cond.instanceMethod ({ cls := "ManyHands", name := "rights", desc := "(III)I" } : Jvm.MethodName)) ∈ gtb := gtb_mem 709 (by decide +kernel) rfl
theorem kw_660 : (Jvm.Cond.selects "ManyHands" ({ cls := "ManyHands", name := "rights", desc := "(III)I" } : Jvm.MethodName) ({ cls := "ManyHands", name := "rights", desc := "(III)I" } : Jvm.MethodName)) ∈ gtb := gtb_mem 710 (by decide +kernel) rfl
set_option maxRecDepth 20000 in
theorem kw_661 : (Jvm.Cond.code ({ cls := "ManyHands", name := "rights", desc := "(III)I" } : Jvm.MethodName) prog_1_method_28_code (7 : Nat) (Option.some Jvm.ClassFile.FieldType.int)) ∈ gtb := gtb_mem 711 (by exact rfl) rfl
theorem kw_662 : (Jvm.Cond.methodLink "ManyHandsLaw" (130 : Nat) ({ cls := "ManyHands", name := "up", desc := "(II)I" } : Jvm.MethodName)) ∈ gtb := gtb_mem 712 (by decide +kernel) rfl
theorem kw_663 : (Jvm.Cond.instanceMethod ({ cls := "ManyHands", name := "up", desc := "(II)I" } : Jvm.MethodName)) ∈ gtb := gtb_mem 713 (by decide +kernel) rfl
theorem kw_664 : (Jvm.Cond.selects "ManyHands" ({ cls := "ManyHands", name := "up", desc := "(II)I" } : Jvm.MethodName) ({ cls := "ManyHands", name := "up", desc := "(II)I" } : Jvm.MethodName)) ∈ gtb := gtb_mem 714 (by decide +kernel) rfl
set_option maxRecDepth 20000 in
theorem kw_665 : (Jvm.Cond.code ({ cls := "ManyHands", name := "up", desc := "(II)I" } : Jvm.MethodName) prog_1_method_29_code (6 : Nat) (Option.some Jvm.ClassFile.FieldType.int)) ∈ gtb := gtb_mem 715 (by exact rfl) rfl
theorem kw_666 : (Jvm.Cond.methodLink "ManyHands" (213 : Nat) ({ cls := "ManyHands$Page", name := "isUp", desc := "(LManyHands$Reach;)Z" } : Jvm.MethodName)) ∈ gtb := gtb_mem 716 (by decide +kernel) rfl
theorem kw_667 : (Jvm.Cond.instanceMethod ({ cls := "ManyHands$Page", name := "isUp", desc := "(LManyHands$Reach;)Z" } : Jvm.MethodName)) ∈ gtb := gtb_mem 717 (by decide +kernel) rfl
theorem kw_668 : (Jvm.Cond.selects "ManyHands$Page" ({ cls := "ManyHands$Page", name := "isUp", desc := "(LManyHands$Reach;)Z" } : Jvm.MethodName) ({ cls := "ManyHands$Page", name := "isUp", desc := "(LManyHands$Reach;)Z" } : Jvm.MethodName)) ∈ gtb := gtb_mem 718 (by decide +kernel) rfl
set_option maxRecDepth 20000 in
theorem kw_669 : (Jvm.Cond.code ({ cls := "ManyHands$Page", name := "isUp", desc := "(LManyHands$Reach;)Z" } : Jvm.MethodName) prog_5_method_17_code (2 : Nat) (Option.some Jvm.ClassFile.FieldType.boolean)) ∈ gtb := gtb_mem 719 (by exact rfl) rfl
theorem kw_670 : (Jvm.Cond.methodLink "ManyHands$Page" (92 : Nat) ({ cls := "ManyHands$Page", name := "sizeOf", desc := "(LManyHands$Reach;I)I" } : Jvm.MethodName)) ∈ gtb := gtb_mem 720 (by decide +kernel) rfl
theorem kw_671 : (Jvm.Cond.instanceMethod ({ cls := "ManyHands$Page", name := "sizeOf", desc := "(LManyHands$Reach;I)I" } : Jvm.MethodName)) ∈ gtb := gtb_mem 721 (by decide +kernel) rfl
theorem kw_672 : (Jvm.Cond.selects "ManyHands$Page" ({ cls := "ManyHands$Page", name := "sizeOf", desc := "(LManyHands$Reach;I)I" } : Jvm.MethodName) ({ cls := "ManyHands$Page", name := "sizeOf", desc := "(LManyHands$Reach;I)I" } : Jvm.MethodName)) ∈ gtb := gtb_mem 722 (by decide +kernel) rfl
set_option maxRecDepth 20000 in
theorem kw_673 : (Jvm.Cond.code ({ cls := "ManyHands$Page", name := "sizeOf", desc := "(LManyHands$Reach;I)I" } : Jvm.MethodName) prog_5_method_7_code (5 : Nat) (Option.some Jvm.ClassFile.FieldType.int)) ∈ gtb := gtb_mem 723 (by exact rfl) rfl
theorem kw_674 : (Jvm.Cond.methodLink "ManyHandsLaw" (134 : Nat) ({ cls := "ManyHands", name := "alike", desc := "(III)I" } : Jvm.MethodName)) ∈ gtb := gtb_mem 724 (by decide +kernel) rfl
theorem kw_675 : (Jvm.Cond.instanceMethod ({ cls := "ManyHands", name := "alike", desc := "(III)I" } : Jvm.MethodName)) ∈ gtb := gtb_mem 725 (by decide +kernel) rfl
theorem kw_676 : (Jvm.Cond.selects "ManyHands" ({ cls := "ManyHands", name := "alike", desc := "(III)I" } : Jvm.MethodName) ({ cls := "ManyHands", name := "alike", desc := "(III)I" } : Jvm.MethodName)) ∈ gtb := gtb_mem 726 (by decide +kernel) rfl
set_option maxRecDepth 20000 in
theorem kw_677 : (Jvm.Cond.code ({ cls := "ManyHands", name := "alike", desc := "(III)I" } : Jvm.MethodName) prog_1_method_30_code (7 : Nat) (Option.some Jvm.ClassFile.FieldType.int)) ∈ gtb := gtb_mem 727 (by exact rfl) rfl
theorem kw_678 : (Jvm.Cond.methodLink "ManyHands" (216 : Nat) ({ cls := "ManyHands$Page", name := "tell", desc := "(LManyHands$Reach;LManyHands$Telling;)V" } : Jvm.MethodName)) ∈ gtb := gtb_mem 728 (by decide +kernel) rfl
theorem kw_679 : (Jvm.Cond.instanceMethod ({ cls := "ManyHands$Page", name := "tell", desc := "(LManyHands$Reach;LManyHands$Telling;)V" } : Jvm.MethodName)) ∈ gtb := gtb_mem 729 (by decide +kernel) rfl
theorem kw_680 : (Jvm.Cond.selects "ManyHands$Page" ({ cls := "ManyHands$Page", name := "tell", desc := "(LManyHands$Reach;LManyHands$Telling;)V" } : Jvm.MethodName) ({ cls := "ManyHands$Page", name := "tell", desc := "(LManyHands$Reach;LManyHands$Telling;)V" } : Jvm.MethodName)) ∈ gtb := gtb_mem 730 (by decide +kernel) rfl
set_option maxRecDepth 20000 in
theorem kw_681 : (Jvm.Cond.code ({ cls := "ManyHands$Page", name := "tell", desc := "(LManyHands$Reach;LManyHands$Telling;)V" } : Jvm.MethodName) prog_5_method_18_code (4 : Nat) (Option.none : Option Jvm.ClassFile.FieldType)) ∈ gtb := gtb_mem 731 (by exact rfl) rfl
theorem kw_682 : (Jvm.Cond.methodLink "ManyHands$Page" (100 : Nat) ({ cls := "ManyHands$Page", name := "tellLast", desc := "(LManyHands$Reach;LManyHands$Telling;)V" } : Jvm.MethodName)) ∈ gtb := gtb_mem 732 (by decide +kernel) rfl
theorem kw_684 : (Jvm.Cond.instanceMethod ({ cls := "ManyHands$Page", name := "tellLast", desc := "(LManyHands$Reach;LManyHands$Telling;)V" } : Jvm.MethodName)) ∈ gtb := gtb_mem 734 (by decide +kernel) rfl
set_option maxRecDepth 20000 in
theorem kw_685 : (Jvm.Cond.code ({ cls := "ManyHands$Page", name := "tellLast", desc := "(LManyHands$Reach;LManyHands$Telling;)V" } : Jvm.MethodName) prog_5_method_19_code (6 : Nat) (Option.none : Option Jvm.ClassFile.FieldType)) ∈ gtb := gtb_mem 735 (by exact rfl) rfl
theorem kw_686 : (Jvm.Cond.methodLink "ManyHands$Page" (119 : Nat) ({ cls := "ManyHands$Page", name := "foremost", desc := "(LManyHands$Reach;)LManyHands$Entry;" } : Jvm.MethodName)) ∈ gtb := gtb_mem 736 (by decide +kernel) rfl
theorem kw_687 : (Jvm.Cond.constantLong "ManyHands$Page" (123 : Nat) (-9 : Int64)) ∈ gtb := gtb_mem 737 (by decide +kernel) rfl
theorem kw_688 : (Jvm.Cond.methodLink "ManyHands$Page" (107 : Nat) ({ cls := "ManyHands$Telling", name := "say", desc := "(J)V" } : Jvm.MethodName)) ∈ gtb := gtb_mem 738 (by decide +kernel) rfl
theorem kw_689 : (Jvm.Cond.instanceMethod ({ cls := "ManyHands$Telling", name := "say", desc := "(J)V" } : Jvm.MethodName)) ∈ gtb := gtb_mem 739 (by decide +kernel) rfl
theorem kw_690 : (Jvm.Cond.selects "ManyHands$Telling" ({ cls := "ManyHands$Telling", name := "say", desc := "(J)V" } : Jvm.MethodName) ({ cls := "ManyHands$Telling", name := "say", desc := "(J)V" } : Jvm.MethodName)) ∈ gtb := gtb_mem 740 (by decide +kernel) rfl
set_option maxRecDepth 20000 in
theorem kw_691 : (Jvm.Cond.code ({ cls := "ManyHands$Telling", name := "say", desc := "(J)V" } : Jvm.MethodName) prog_7_method_2_code (3 : Nat) (Option.none : Option Jvm.ClassFile.FieldType)) ∈ gtb := gtb_mem 741 (by exact rfl) rfl
theorem kw_692 : (Jvm.Cond.methodLink "ManyHands$Page" (104 : Nat) ({ cls := "ManyHands$Page", name := "tellTally", desc := "(LManyHands$Reach;LManyHands$Telling;)V" } : Jvm.MethodName)) ∈ gtb := gtb_mem 742 (by decide +kernel) rfl
theorem kw_694 : (Jvm.Cond.instanceMethod ({ cls := "ManyHands$Page", name := "tellTally", desc := "(LManyHands$Reach;LManyHands$Telling;)V" } : Jvm.MethodName)) ∈ gtb := gtb_mem 744 (by decide +kernel) rfl
set_option maxRecDepth 20000 in
theorem kw_695 : (Jvm.Cond.code ({ cls := "ManyHands$Page", name := "tellTally", desc := "(LManyHands$Reach;LManyHands$Telling;)V" } : Jvm.MethodName) prog_5_method_20_code (4 : Nat) (Option.none : Option Jvm.ClassFile.FieldType)) ∈ gtb := gtb_mem 745 (by exact rfl) rfl
theorem kw_696 : (Jvm.Cond.methodLink "ManyHands$Page" (130 : Nat) ({ cls := "ManyHands$Page", name := "total", desc := "(LManyHands$Reach;)J" } : Jvm.MethodName)) ∈ gtb := gtb_mem 746 (by decide +kernel) rfl
theorem kw_697 : (Jvm.Cond.methodLink "ManyHands$Page" (134 : Nat) ({ cls := "ManyHands$Page", name := "size", desc := "(LManyHands$Reach;)I" } : Jvm.MethodName)) ∈ gtb := gtb_mem 747 (by decide +kernel) rfl
theorem kw_698 : (Jvm.Cond.methodLink "ManyHands$Page" (136 : Nat) ({ cls := "ManyHands$Page", name := "rightsOf", desc := "(LManyHands$Reach;I)J" } : Jvm.MethodName)) ∈ gtb := gtb_mem 748 (by decide +kernel) rfl
theorem kw_699 : (Jvm.Cond.methodLink "ManyHands$Page" (111 : Nat) ({ cls := "ManyHands$Page", name := "isUp", desc := "(LManyHands$Reach;)Z" } : Jvm.MethodName)) ∈ gtb := gtb_mem 749 (by decide +kernel) rfl
theorem kw_701 : (Jvm.Cond.methodLink "ManyHands" (220 : Nat) ({ cls := "ManyHands$Telling", name := "same", desc := "(LManyHands$Telling;)Z" } : Jvm.MethodName)) ∈ gtb := gtb_mem 751 (by decide +kernel) rfl
theorem kw_702 : (Jvm.Cond.instanceMethod ({ cls := "ManyHands$Telling", name := "same", desc := "(LManyHands$Telling;)Z" } : Jvm.MethodName)) ∈ gtb := gtb_mem 752 (by decide +kernel) rfl
theorem kw_703 : (Jvm.Cond.selects "ManyHands$Telling" ({ cls := "ManyHands$Telling", name := "same", desc := "(LManyHands$Telling;)Z" } : Jvm.MethodName) ({ cls := "ManyHands$Telling", name := "same", desc := "(LManyHands$Telling;)Z" } : Jvm.MethodName)) ∈ gtb := gtb_mem 753 (by decide +kernel) rfl
set_option maxRecDepth 20000 in
theorem kw_704 : (Jvm.Cond.code ({ cls := "ManyHands$Telling", name := "same", desc := "(LManyHands$Telling;)Z" } : Jvm.MethodName) prog_7_method_3_code (3 : Nat) (Option.some Jvm.ClassFile.FieldType.boolean)) ∈ gtb := gtb_mem 754 (by exact rfl) rfl
theorem kw_705 : (Jvm.Cond.methodLink "ManyHandsLaw" (138 : Nat) ({ cls := "ManyHands", name := "leaves", desc := "(II)I" } : Jvm.MethodName)) ∈ gtb := gtb_mem 755 (by decide +kernel) rfl
theorem kw_706 : (Jvm.Cond.instanceMethod ({ cls := "ManyHands", name := "leaves", desc := "(II)I" } : Jvm.MethodName)) ∈ gtb := gtb_mem 756 (by decide +kernel) rfl
theorem kw_707 : (Jvm.Cond.selects "ManyHands" ({ cls := "ManyHands", name := "leaves", desc := "(II)I" } : Jvm.MethodName) ({ cls := "ManyHands", name := "leaves", desc := "(II)I" } : Jvm.MethodName)) ∈ gtb := gtb_mem 757 (by decide +kernel) rfl
set_option maxRecDepth 20000 in
theorem kw_708 : (Jvm.Cond.code ({ cls := "ManyHands", name := "leaves", desc := "(II)I" } : Jvm.MethodName) prog_1_method_31_code (4 : Nat) (Option.some Jvm.ClassFile.FieldType.int)) ∈ gtb := gtb_mem 758 (by exact rfl) rfl
theorem kw_709 : (Jvm.Cond.methodLink "ManyHands" (228 : Nat) ({ cls := "ManyHands$LeafRow", name := "renew", desc := "(I)V" } : Jvm.MethodName)) ∈ gtb := gtb_mem 759 (by decide +kernel) rfl
theorem kw_710 : (Jvm.Cond.instanceMethod ({ cls := "ManyHands$LeafRow", name := "renew", desc := "(I)V" } : Jvm.MethodName)) ∈ gtb := gtb_mem 760 (by decide +kernel) rfl
theorem kw_711 : (Jvm.Cond.selects "ManyHands$LeafRow" ({ cls := "ManyHands$LeafRow", name := "renew", desc := "(I)V" } : Jvm.MethodName) ({ cls := "ManyHands$LeafRow", name := "renew", desc := "(I)V" } : Jvm.MethodName)) ∈ gtb := gtb_mem 761 (by decide +kernel) rfl
set_option maxRecDepth 20000 in
theorem kw_712 : (Jvm.Cond.code ({ cls := "ManyHands$LeafRow", name := "renew", desc := "(I)V" } : Jvm.MethodName) prog_4_method_2_code (3 : Nat) (Option.none : Option Jvm.ClassFile.FieldType)) ∈ gtb := gtb_mem 762 (by exact rfl) rfl
theorem kw_713 : (Jvm.Cond.methodLink "ManyHandsLaw" (142 : Nat) ({ cls := "ManyHands", name := "save", desc := "(II)I" } : Jvm.MethodName)) ∈ gtb := gtb_mem 763 (by decide +kernel) rfl
theorem kw_714 : (Jvm.Cond.instanceMethod ({ cls := "ManyHands", name := "save", desc := "(II)I" } : Jvm.MethodName)) ∈ gtb := gtb_mem 764 (by decide +kernel) rfl
theorem kw_715 : (Jvm.Cond.selects "ManyHands" ({ cls := "ManyHands", name := "save", desc := "(II)I" } : Jvm.MethodName) ({ cls := "ManyHands", name := "save", desc := "(II)I" } : Jvm.MethodName)) ∈ gtb := gtb_mem 765 (by decide +kernel) rfl
set_option maxRecDepth 20000 in
theorem kw_716 : (Jvm.Cond.code ({ cls := "ManyHands", name := "save", desc := "(II)I" } : Jvm.MethodName) prog_1_method_32_code (4 : Nat) (Option.some Jvm.ClassFile.FieldType.int)) ∈ gtb := gtb_mem 766 (by exact rfl) rfl
theorem kw_717 : (Jvm.Cond.methodLink "ManyHands" (233 : Nat) ({ cls := "ManyHands$LeafRow", name := "spans", desc := "(II)Z" } : Jvm.MethodName)) ∈ gtb := gtb_mem 767 (by decide +kernel) rfl
theorem kw_718 : (Jvm.Cond.instanceMethod ({ cls := "ManyHands$LeafRow", name := "spans", desc := "(II)Z" } : Jvm.MethodName)) ∈ gtb := gtb_mem 768 (by decide +kernel) rfl
theorem kw_719 : (Jvm.Cond.selects "ManyHands$LeafRow" ({ cls := "ManyHands$LeafRow", name := "spans", desc := "(II)Z" } : Jvm.MethodName) ({ cls := "ManyHands$LeafRow", name := "spans", desc := "(II)Z" } : Jvm.MethodName)) ∈ gtb := gtb_mem 769 (by decide +kernel) rfl
set_option maxRecDepth 20000 in
theorem kw_720 : (Jvm.Cond.code ({ cls := "ManyHands$LeafRow", name := "spans", desc := "(II)Z" } : Jvm.MethodName) prog_4_method_3_code (3 : Nat) (Option.some Jvm.ClassFile.FieldType.boolean)) ∈ gtb := gtb_mem 770 (by exact rfl) rfl
theorem kw_721 : (Jvm.Cond.methodLink "ManyHands" (240 : Nat) ({ cls := "ManyHands$LeafRow", name := "store", desc := "(IJ)V" } : Jvm.MethodName)) ∈ gtb := gtb_mem 771 (by decide +kernel) rfl
theorem kw_722 : (Jvm.Cond.instanceMethod ({ cls := "ManyHands$LeafRow", name := "store", desc := "(IJ)V" } : Jvm.MethodName)) ∈ gtb := gtb_mem 772 (by decide +kernel) rfl
theorem kw_723 : (Jvm.Cond.selects "ManyHands$LeafRow" ({ cls := "ManyHands$LeafRow", name := "store", desc := "(IJ)V" } : Jvm.MethodName) ({ cls := "ManyHands$LeafRow", name := "store", desc := "(IJ)V" } : Jvm.MethodName)) ∈ gtb := gtb_mem 773 (by decide +kernel) rfl
set_option maxRecDepth 20000 in
theorem kw_724 : (Jvm.Cond.code ({ cls := "ManyHands$LeafRow", name := "store", desc := "(IJ)V" } : Jvm.MethodName) prog_4_method_5_code (4 : Nat) (Option.none : Option Jvm.ClassFile.FieldType)) ∈ gtb := gtb_mem 774 (by exact rfl) rfl
theorem kw_725 : (Jvm.Cond.methodLink "ManyHandsLaw" (146 : Nat) ({ cls := "ManyHands", name := "tear", desc := "(II)I" } : Jvm.MethodName)) ∈ gtb := gtb_mem 775 (by decide +kernel) rfl
theorem kw_726 : (Jvm.Cond.instanceMethod ({ cls := "ManyHands", name := "tear", desc := "(II)I" } : Jvm.MethodName)) ∈ gtb := gtb_mem 776 (by decide +kernel) rfl
theorem kw_727 : (Jvm.Cond.selects "ManyHands" ({ cls := "ManyHands", name := "tear", desc := "(II)I" } : Jvm.MethodName) ({ cls := "ManyHands", name := "tear", desc := "(II)I" } : Jvm.MethodName)) ∈ gtb := gtb_mem 777 (by decide +kernel) rfl
set_option maxRecDepth 20000 in
theorem kw_728 : (Jvm.Cond.code ({ cls := "ManyHands", name := "tear", desc := "(II)I" } : Jvm.MethodName) prog_1_method_33_code (5 : Nat) (Option.some Jvm.ClassFile.FieldType.int)) ∈ gtb := gtb_mem 778 (by exact rfl) rfl
theorem kw_729 : (Jvm.Cond.methodLink "ManyHands" (244 : Nat) ({ cls := "ManyHands", name := "refusalToRead", desc := "(LManyHands$LeafRow;I)I" } : Jvm.MethodName)) ∈ gtb := gtb_mem 779 (by decide +kernel) rfl
theorem kw_731 : (Jvm.Cond.instanceMethod ({ cls := "ManyHands", name := "refusalToRead", desc := "(LManyHands$LeafRow;I)I" } : Jvm.MethodName)) ∈ gtb := gtb_mem 781 (by decide +kernel) rfl
set_option maxRecDepth 20000 in
theorem kw_732 : (Jvm.Cond.code ({ cls := "ManyHands", name := "refusalToRead", desc := "(LManyHands$LeafRow;I)I" } : Jvm.MethodName) prog_1_method_53_code (3 : Nat) (Option.some Jvm.ClassFile.FieldType.int)) ∈ gtb := gtb_mem 782 (by exact rfl) rfl
theorem kw_733 : (Jvm.Cond.methodLink "ManyHands" (285 : Nat) ({ cls := "ManyHands$LeafRow", name := "isThere", desc := "(I)Z" } : Jvm.MethodName)) ∈ gtb := gtb_mem 783 (by decide +kernel) rfl
theorem kw_734 : (Jvm.Cond.instanceMethod ({ cls := "ManyHands$LeafRow", name := "isThere", desc := "(I)Z" } : Jvm.MethodName)) ∈ gtb := gtb_mem 784 (by decide +kernel) rfl
theorem kw_735 : (Jvm.Cond.selects "ManyHands$LeafRow" ({ cls := "ManyHands$LeafRow", name := "isThere", desc := "(I)Z" } : Jvm.MethodName) ({ cls := "ManyHands$LeafRow", name := "isThere", desc := "(I)Z" } : Jvm.MethodName)) ∈ gtb := gtb_mem 785 (by decide +kernel) rfl
set_option maxRecDepth 20000 in
theorem kw_736 : (Jvm.Cond.code ({ cls := "ManyHands$LeafRow", name := "isThere", desc := "(I)Z" } : Jvm.MethodName) prog_4_method_4_code (2 : Nat) (Option.some Jvm.ClassFile.FieldType.boolean)) ∈ gtb := gtb_mem 786 (by exact rfl) rfl
theorem kw_737 : (Jvm.Cond.methodLink "ManyHands" (248 : Nat) ({ cls := "ManyHands$LeafRow", name := "drop", desc := "(I)V" } : Jvm.MethodName)) ∈ gtb := gtb_mem 787 (by decide +kernel) rfl
theorem kw_738 : (Jvm.Cond.instanceMethod ({ cls := "ManyHands$LeafRow", name := "drop", desc := "(I)V" } : Jvm.MethodName)) ∈ gtb := gtb_mem 788 (by decide +kernel) rfl
theorem kw_739 : (Jvm.Cond.selects "ManyHands$LeafRow" ({ cls := "ManyHands$LeafRow", name := "drop", desc := "(I)V" } : Jvm.MethodName) ({ cls := "ManyHands$LeafRow", name := "drop", desc := "(I)V" } : Jvm.MethodName)) ∈ gtb := gtb_mem 789 (by decide +kernel) rfl
set_option maxRecDepth 20000 in
theorem kw_740 : (Jvm.Cond.code ({ cls := "ManyHands$LeafRow", name := "drop", desc := "(I)V" } : Jvm.MethodName) prog_4_method_6_code (2 : Nat) (Option.none : Option Jvm.ClassFile.FieldType)) ∈ gtb := gtb_mem 790 (by exact rfl) rfl
theorem kw_741 : (Jvm.Cond.methodLink "ManyHandsLaw" (150 : Nat) ({ cls := "ManyHands", name := "leaf", desc := "(II)I" } : Jvm.MethodName)) ∈ gtb := gtb_mem 791 (by decide +kernel) rfl
theorem kw_742 : (Jvm.Cond.instanceMethod ({ cls := "ManyHands", name := "leaf", desc := "(II)I" } : Jvm.MethodName)) ∈ gtb := gtb_mem 792 (by decide +kernel) rfl
theorem kw_743 : (Jvm.Cond.selects "ManyHands" ({ cls := "ManyHands", name := "leaf", desc := "(II)I" } : Jvm.MethodName) ({ cls := "ManyHands", name := "leaf", desc := "(II)I" } : Jvm.MethodName)) ∈ gtb := gtb_mem 793 (by decide +kernel) rfl
set_option maxRecDepth 20000 in
theorem kw_744 : (Jvm.Cond.code ({ cls := "ManyHands", name := "leaf", desc := "(II)I" } : Jvm.MethodName) prog_1_method_34_code (5 : Nat) (Option.some Jvm.ClassFile.FieldType.int)) ∈ gtb := gtb_mem 794 (by exact rfl) rfl
theorem kw_745 : (Jvm.Cond.methodLink "ManyHandsLaw" (154 : Nat) ({ cls := "ManyHands", name := "copy", desc := "(IIIII)I" } : Jvm.MethodName)) ∈ gtb := gtb_mem 795 (by decide +kernel) rfl
theorem kw_746 : (Jvm.Cond.instanceMethod ({ cls := "ManyHands", name := "copy", desc := "(IIIII)I" } : Jvm.MethodName)) ∈ gtb := gtb_mem 796 (by decide +kernel) rfl
theorem kw_747 : (Jvm.Cond.selects "ManyHands" ({ cls := "ManyHands", name := "copy", desc := "(IIIII)I" } : Jvm.MethodName) ({ cls := "ManyHands", name := "copy", desc := "(IIIII)I" } : Jvm.MethodName)) ∈ gtb := gtb_mem 797 (by decide +kernel) rfl
set_option maxRecDepth 20000 in
theorem kw_748 : (Jvm.Cond.code ({ cls := "ManyHands", name := "copy", desc := "(IIIII)I" } : Jvm.MethodName) prog_1_method_35_code (8 : Nat) (Option.some Jvm.ClassFile.FieldType.int)) ∈ gtb := gtb_mem 798 (by exact rfl) rfl
theorem kw_749 : (Jvm.Cond.methodLink "ManyHands" (255 : Nat) ({ cls := "ManyHands$LeafRow", name := "copyTo", desc := "(ILManyHands$LeafRow;II)V" } : Jvm.MethodName)) ∈ gtb := gtb_mem 799 (by decide +kernel) rfl
theorem kw_750 : (Jvm.Cond.instanceMethod ({ cls := "ManyHands$LeafRow", name := "copyTo", desc := "(ILManyHands$LeafRow;II)V" } : Jvm.MethodName)) ∈ gtb := gtb_mem 800 (by decide +kernel) rfl
theorem kw_751 : (Jvm.Cond.selects "ManyHands$LeafRow" ({ cls := "ManyHands$LeafRow", name := "copyTo", desc := "(ILManyHands$LeafRow;II)V" } : Jvm.MethodName) ({ cls := "ManyHands$LeafRow", name := "copyTo", desc := "(ILManyHands$LeafRow;II)V" } : Jvm.MethodName)) ∈ gtb := gtb_mem 801 (by decide +kernel) rfl
set_option maxRecDepth 20000 in
theorem kw_752 : (Jvm.Cond.code ({ cls := "ManyHands$LeafRow", name := "copyTo", desc := "(ILManyHands$LeafRow;II)V" } : Jvm.MethodName) prog_4_method_7_code (5 : Nat) (Option.none : Option Jvm.ClassFile.FieldType)) ∈ gtb := gtb_mem 802 (by exact rfl) rfl
theorem kw_753 : (Jvm.Cond.methodLink "ManyHands$LeafRow" (23 : Nat) ({ cls := "java/lang/System", name := "arraycopy", desc := "(Ljava/lang/Object;ILjava/lang/Object;II)V" } : Jvm.MethodName)) ∈ gtb := gtb_mem 803 (by decide +kernel) rfl
theorem kw_754 : (Jvm.Cond.methodLink "ManyHandsLaw" (159 : Nat) ({ cls := "ManyHands", name := "asked", desc := "()J" } : Jvm.MethodName)) ∈ gtb := gtb_mem 804 (by decide +kernel) rfl
theorem kw_755 : (Jvm.Cond.instanceMethod ({ cls := "ManyHands", name := "asked", desc := "()J" } : Jvm.MethodName)) ∈ gtb := gtb_mem 805 (by decide +kernel) rfl
theorem kw_756 : (Jvm.Cond.selects "ManyHands" ({ cls := "ManyHands", name := "asked", desc := "()J" } : Jvm.MethodName) ({ cls := "ManyHands", name := "asked", desc := "()J" } : Jvm.MethodName)) ∈ gtb := gtb_mem 806 (by decide +kernel) rfl
set_option maxRecDepth 20000 in
theorem kw_757 : (Jvm.Cond.code ({ cls := "ManyHands", name := "asked", desc := "()J" } : Jvm.MethodName) prog_1_method_36_code (1 : Nat) (Option.some Jvm.ClassFile.FieldType.long)) ∈ gtb := gtb_mem 807 (by exact rfl) rfl
theorem kw_758 : (Jvm.Cond.methodLink "ManyHandsLaw" (164 : Nat) ({ cls := "ManyHands", name := "count", desc := "(I)I" } : Jvm.MethodName)) ∈ gtb := gtb_mem 808 (by decide +kernel) rfl
theorem kw_759 : (Jvm.Cond.instanceMethod ({ cls := "ManyHands", name := "count", desc := "(I)I" } : Jvm.MethodName)) ∈ gtb := gtb_mem 809 (by decide +kernel) rfl
theorem kw_760 : (Jvm.Cond.selects "ManyHands" ({ cls := "ManyHands", name := "count", desc := "(I)I" } : Jvm.MethodName) ({ cls := "ManyHands", name := "count", desc := "(I)I" } : Jvm.MethodName)) ∈ gtb := gtb_mem 810 (by decide +kernel) rfl
set_option maxRecDepth 20000 in
theorem kw_761 : (Jvm.Cond.code ({ cls := "ManyHands", name := "count", desc := "(I)I" } : Jvm.MethodName) prog_1_method_37_code (2 : Nat) (Option.some Jvm.ClassFile.FieldType.int)) ∈ gtb := gtb_mem 811 (by exact rfl) rfl
theorem kw_762 : (Jvm.Cond.methodLink "ManyHandsLaw" (168 : Nat) ({ cls := "ManyHands", name := "finding", desc := "()I" } : Jvm.MethodName)) ∈ gtb := gtb_mem 812 (by decide +kernel) rfl
theorem kw_763 : (Jvm.Cond.instanceMethod ({ cls := "ManyHands", name := "finding", desc := "()I" } : Jvm.MethodName)) ∈ gtb := gtb_mem 813 (by decide +kernel) rfl
theorem kw_764 : (Jvm.Cond.selects "ManyHands" ({ cls := "ManyHands", name := "finding", desc := "()I" } : Jvm.MethodName) ({ cls := "ManyHands", name := "finding", desc := "()I" } : Jvm.MethodName)) ∈ gtb := gtb_mem 814 (by decide +kernel) rfl
set_option maxRecDepth 20000 in
theorem kw_765 : (Jvm.Cond.code ({ cls := "ManyHands", name := "finding", desc := "()I" } : Jvm.MethodName) prog_1_method_38_code (1 : Nat) (Option.some Jvm.ClassFile.FieldType.int)) ∈ gtb := gtb_mem 815 (by exact rfl) rfl
theorem kw_766 : (Jvm.Cond.methodLink "ManyHandsLaw" (172 : Nat) ({ cls := "ManyHands", name := "findings", desc := "(I)I" } : Jvm.MethodName)) ∈ gtb := gtb_mem 816 (by decide +kernel) rfl
theorem kw_767 : (Jvm.Cond.instanceMethod ({ cls := "ManyHands", name := "findings", desc := "(I)I" } : Jvm.MethodName)) ∈ gtb := gtb_mem 817 (by decide +kernel) rfl
theorem kw_768 : (Jvm.Cond.selects "ManyHands" ({ cls := "ManyHands", name := "findings", desc := "(I)I" } : Jvm.MethodName) ({ cls := "ManyHands", name := "findings", desc := "(I)I" } : Jvm.MethodName)) ∈ gtb := gtb_mem 818 (by decide +kernel) rfl
set_option maxRecDepth 20000 in
theorem kw_769 : (Jvm.Cond.code ({ cls := "ManyHands", name := "findings", desc := "(I)I" } : Jvm.MethodName) prog_1_method_39_code (2 : Nat) (Option.some Jvm.ClassFile.FieldType.int)) ∈ gtb := gtb_mem 819 (by exact rfl) rfl
theorem kw_770 : (Jvm.Cond.methodLink "ManyHandsLaw" (176 : Nat) ({ cls := "ManyHands", name := "digest", desc := "(I)J" } : Jvm.MethodName)) ∈ gtb := gtb_mem 820 (by decide +kernel) rfl
theorem kw_771 : (Jvm.Cond.instanceMethod ({ cls := "ManyHands", name := "digest", desc := "(I)J" } : Jvm.MethodName)) ∈ gtb := gtb_mem 821 (by decide +kernel) rfl
theorem kw_772 : (Jvm.Cond.selects "ManyHands" ({ cls := "ManyHands", name := "digest", desc := "(I)J" } : Jvm.MethodName) ({ cls := "ManyHands", name := "digest", desc := "(I)J" } : Jvm.MethodName)) ∈ gtb := gtb_mem 822 (by decide +kernel) rfl
set_option maxRecDepth 20000 in
theorem kw_773 : (Jvm.Cond.code ({ cls := "ManyHands", name := "digest", desc := "(I)J" } : Jvm.MethodName) prog_1_method_40_code (7 : Nat) (Option.some Jvm.ClassFile.FieldType.long)) ∈ gtb := gtb_mem 823 (by exact rfl) rfl
theorem kw_774 : (Jvm.Cond.constantLong "ManyHands" (263 : Nat) (17 : Int64)) ∈ gtb := gtb_mem 824 (by decide +kernel) rfl
theorem kw_775 : (Jvm.Cond.methodLink "ManyHands" (265 : Nat) ({ cls := "ManyHands", name := "folded", desc := "(JJ)J" } : Jvm.MethodName)) ∈ gtb := gtb_mem 825 (by decide +kernel) rfl
theorem kw_776 : (Jvm.Cond.static ({ cls := "ManyHands", name := "folded", desc := "(JJ)J" } : Jvm.MethodName)) ∈ gtb := gtb_mem 826 (by decide +kernel) rfl
set_option maxRecDepth 20000 in
theorem kw_777 : (Jvm.Cond.code ({ cls := "ManyHands", name := "folded", desc := "(JJ)J" } : Jvm.MethodName) prog_1_method_48_code (4 : Nat) (Option.some Jvm.ClassFile.FieldType.long)) ∈ gtb := gtb_mem 827 (by exact rfl) rfl
theorem kw_778 : (Jvm.Cond.constantLong "ManyHands" (280 : Nat) (31 : Int64)) ∈ gtb := gtb_mem 828 (by decide +kernel) rfl
theorem kw_779 : (Jvm.Cond.methodLink "ManyHands" (269 : Nat) ({ cls := "ManyHands$Telling", name := "foldedOnto", desc := "(J)J" } : Jvm.MethodName)) ∈ gtb := gtb_mem 829 (by decide +kernel) rfl
theorem kw_780 : (Jvm.Cond.instanceMethod ({ cls := "ManyHands$Telling", name := "foldedOnto", desc := "(J)J" } : Jvm.MethodName)) ∈ gtb := gtb_mem 830 (by decide +kernel) rfl
theorem kw_781 : (Jvm.Cond.selects "ManyHands$Telling" ({ cls := "ManyHands$Telling", name := "foldedOnto", desc := "(J)J" } : Jvm.MethodName) ({ cls := "ManyHands$Telling", name := "foldedOnto", desc := "(J)J" } : Jvm.MethodName)) ∈ gtb := gtb_mem 831 (by decide +kernel) rfl
set_option maxRecDepth 20000 in
theorem kw_782 : (Jvm.Cond.code ({ cls := "ManyHands$Telling", name := "foldedOnto", desc := "(J)J" } : Jvm.MethodName) prog_7_method_4_code (6 : Nat) (Option.some Jvm.ClassFile.FieldType.long)) ∈ gtb := gtb_mem 832 (by exact rfl) rfl
theorem kw_784 : (Jvm.Cond.methodLink "ManyHands" (273 : Nat) ({ cls := "ManyHands$LeafRow", name := "foldedOnto", desc := "(J)J" } : Jvm.MethodName)) ∈ gtb := gtb_mem 834 (by decide +kernel) rfl
theorem kw_785 : (Jvm.Cond.instanceMethod ({ cls := "ManyHands$LeafRow", name := "foldedOnto", desc := "(J)J" } : Jvm.MethodName)) ∈ gtb := gtb_mem 835 (by decide +kernel) rfl
theorem kw_786 : (Jvm.Cond.selects "ManyHands$LeafRow" ({ cls := "ManyHands$LeafRow", name := "foldedOnto", desc := "(J)J" } : Jvm.MethodName) ({ cls := "ManyHands$LeafRow", name := "foldedOnto", desc := "(J)J" } : Jvm.MethodName)) ∈ gtb := gtb_mem 836 (by decide +kernel) rfl
set_option maxRecDepth 20000 in
theorem kw_787 : (Jvm.Cond.code ({ cls := "ManyHands$LeafRow", name := "foldedOnto", desc := "(J)J" } : Jvm.MethodName) prog_4_method_8_code (6 : Nat) (Option.some Jvm.ClassFile.FieldType.long)) ∈ gtb := gtb_mem 837 (by exact rfl) rfl
theorem kw_789 : (Jvm.Cond.methodLink "ManyHands$LeafRow" (33 : Nat) ({ cls := "ManyHands$LeafRow", name := "isThere", desc := "(I)Z" } : Jvm.MethodName)) ∈ gtb := gtb_mem 839 (by decide +kernel) rfl
theorem kw_790 : (Jvm.Cond.classLink "ManyHandsLaw" (10 : Nat) "ManyHandsModel") ∈ gtb := gtb_mem 840 (by decide +kernel) rfl
theorem kw_791 : (Jvm.Cond.instantiable "ManyHandsModel" (28 : Nat)) ∈ gtb := gtb_mem 841 (by decide +kernel) rfl
theorem kw_792 : (Jvm.Cond.methodLink "ManyHandsLaw" (12 : Nat) ({ cls := "ManyHandsModel", name := "<init>", desc := "()V" } : Jvm.MethodName)) ∈ gtb := gtb_mem 842 (by decide +kernel) rfl
theorem kw_793 : (Jvm.Cond.instanceMethod ({ cls := "ManyHandsModel", name := "<init>", desc := "()V" } : Jvm.MethodName)) ∈ gtb := gtb_mem 843 (by decide +kernel) rfl
set_option maxRecDepth 20000 in
theorem kw_794 : (Jvm.Cond.code ({ cls := "ManyHandsModel", name := "<init>", desc := "()V" } : Jvm.MethodName) prog_9_method_1_code (1 : Nat) (Option.none : Option Jvm.ClassFile.FieldType)) ∈ gtb := gtb_mem 844 (by exact rfl) rfl
theorem kw_795 : (Jvm.Cond.methodLink "ManyHandsModel" (1 : Nat) ({ cls := "java/lang/Object", name := "<init>", desc := "()V" } : Jvm.MethodName)) ∈ gtb := gtb_mem 845 (by decide +kernel) rfl
theorem kw_796 : (Jvm.Cond.fieldLink "ManyHandsModel" (78 : Nat) "ManyHandsModel" "latest" "I") ∈ gtb := gtb_mem 846 (by decide +kernel) rfl
theorem kw_797 : (Jvm.Cond.fieldLink "ManyHandsModel" (7 : Nat) "ManyHandsModel" "came" "[I") ∈ gtb := gtb_mem 847 (by decide +kernel) rfl
theorem kw_798 : (Jvm.Cond.fieldLink "ManyHandsModel" (95 : Nat) "ManyHandsModel" "hands" "I") ∈ gtb := gtb_mem 848 (by decide +kernel) rfl
theorem kw_799 : (Jvm.Cond.fieldLink "ManyHandsModel" (13 : Nat) "ManyHandsModel" "has" "[J") ∈ gtb := gtb_mem 849 (by decide +kernel) rfl
theorem kw_800 : (Jvm.Cond.fieldLink "ManyHandsModel" (17 : Nat) "ManyHandsModel" "waits" "[J") ∈ gtb := gtb_mem 850 (by decide +kernel) rfl
theorem kw_801 : (Jvm.Cond.fieldLink "ManyHandsModel" (20 : Nat) "ManyHandsModel" "skips" "[Z") ∈ gtb := gtb_mem 851 (by decide +kernel) rfl
theorem kw_802 : (Jvm.Cond.fieldLink "ManyHandsModel" (24 : Nat) "ManyHandsModel" "madeBy" "[I") ∈ gtb := gtb_mem 852 (by decide +kernel) rfl
theorem kw_803 : (Jvm.Cond.fieldLink "ManyHandsModel" (98 : Nat) "ManyHandsModel" "pages" "I") ∈ gtb := gtb_mem 853 (by decide +kernel) rfl
theorem kw_804 : (Jvm.Cond.fieldLink "ManyHandsModel" (27 : Nat) "ManyHandsModel" "kindOf" "[I") ∈ gtb := gtb_mem 854 (by decide +kernel) rfl
theorem kw_805 : (Jvm.Cond.fieldLink "ManyHandsModel" (88 : Nat) "ManyHandsModel" "changes" "I") ∈ gtb := gtb_mem 855 (by decide +kernel) rfl
theorem kw_806 : (Jvm.Cond.fieldLink "ManyHandsModel" (30 : Nat) "ManyHandsModel" "handOf" "[I") ∈ gtb := gtb_mem 856 (by decide +kernel) rfl
theorem kw_807 : (Jvm.Cond.fieldLink "ManyHandsModel" (33 : Nat) "ManyHandsModel" "pageOf" "[I") ∈ gtb := gtb_mem 857 (by decide +kernel) rfl
theorem kw_808 : (Jvm.Cond.fieldLink "ManyHandsModel" (36 : Nat) "ManyHandsModel" "countOf" "[I") ∈ gtb := gtb_mem 858 (by decide +kernel) rfl
theorem kw_809 : (Jvm.Cond.fieldLink "ManyHandsModel" (39 : Nat) "ManyHandsModel" "doing" "[I") ∈ gtb := gtb_mem 859 (by decide +kernel) rfl
theorem kw_810 : (Jvm.Cond.fieldLink "ManyHandsModel" (42 : Nat) "ManyHandsModel" "one" "[I") ∈ gtb := gtb_mem 860 (by decide +kernel) rfl
theorem kw_811 : (Jvm.Cond.fieldLink "ManyHandsModel" (45 : Nat) "ManyHandsModel" "two" "[I") ∈ gtb := gtb_mem 861 (by decide +kernel) rfl
theorem kw_812 : (Jvm.Cond.fieldLink "ManyHandsModel" (48 : Nat) "ManyHandsModel" "valueOf" "[J") ∈ gtb := gtb_mem 862 (by decide +kernel) rfl
theorem kw_813 : (Jvm.Cond.fieldLink "ManyHandsModel" (51 : Nat) "ManyHandsModel" "knows" "[J") ∈ gtb := gtb_mem 863 (by decide +kernel) rfl
theorem kw_814 : (Jvm.Cond.fieldLink "ManyHandsModel" (204 : Nat) "ManyHandsModel" "asked" "J") ∈ gtb := gtb_mem 864 (by decide +kernel) rfl
theorem kw_815 : (Jvm.Cond.fieldLink "ManyHandsModel" (54 : Nat) "ManyHandsModel" "heads" "[I") ∈ gtb := gtb_mem 865 (by decide +kernel) rfl
theorem kw_816 : (Jvm.Cond.fieldLink "ManyHandsModel" (189 : Nat) "ManyHandsModel" "headMany" "I") ∈ gtb := gtb_mem 866 (by decide +kernel) rfl
theorem kw_817 : (Jvm.Cond.fieldLink "ManyHandsModel" (57 : Nat) "ManyHandsModel" "row" "[J") ∈ gtb := gtb_mem 867 (by decide +kernel) rfl
theorem kw_818 : (Jvm.Cond.fieldLink "ManyHandsModel" (60 : Nat) "ManyHandsModel" "other" "[J") ∈ gtb := gtb_mem 868 (by decide +kernel) rfl
theorem kw_819 : (Jvm.Cond.fieldLink "ManyHandsModel" (63 : Nat) "ManyHandsModel" "leafMany" "[I") ∈ gtb := gtb_mem 869 (by decide +kernel) rfl
theorem kw_820 : (Jvm.Cond.fieldLink "ManyHandsModel" (66 : Nat) "ManyHandsModel" "isThere" "[Z") ∈ gtb := gtb_mem 870 (by decide +kernel) rfl
theorem kw_821 : (Jvm.Cond.fieldLink "ManyHandsModel" (69 : Nat) "ManyHandsModel" "leaf" "[J") ∈ gtb := gtb_mem 871 (by decide +kernel) rfl
theorem kw_822 : (Jvm.Cond.fieldLink "ManyHandsModel" (72 : Nat) "ManyHandsModel" "copied" "[J") ∈ gtb := gtb_mem 872 (by decide +kernel) rfl
theorem kw_823 : (Jvm.Cond.fieldLink "ManyHandsModel" (75 : Nat) "ManyHandsModel" "copiedThere" "[Z") ∈ gtb := gtb_mem 873 (by decide +kernel) rfl
theorem kw_824 : (Jvm.Cond.lays "ManyHandsModel" "ManyHandsModel" "latest" "I") ∈ gtb := gtb_mem 874 (by decide +kernel) rfl
theorem kw_826 : (Jvm.Cond.laysFinal "ManyHandsModel" "ManyHandsModel" "came" "[I") ∈ gtb := gtb_mem 876 (by decide +kernel) rfl
theorem kw_828 : (Jvm.Cond.lays "ManyHandsModel" "ManyHandsModel" "hands" "I") ∈ gtb := gtb_mem 878 (by decide +kernel) rfl
theorem kw_830 : (Jvm.Cond.laysFinal "ManyHandsModel" "ManyHandsModel" "has" "[J") ∈ gtb := gtb_mem 880 (by decide +kernel) rfl
theorem kw_832 : (Jvm.Cond.laysFinal "ManyHandsModel" "ManyHandsModel" "waits" "[J") ∈ gtb := gtb_mem 882 (by decide +kernel) rfl
theorem kw_834 : (Jvm.Cond.laysFinal "ManyHandsModel" "ManyHandsModel" "skips" "[Z") ∈ gtb := gtb_mem 884 (by decide +kernel) rfl
theorem kw_836 : (Jvm.Cond.laysFinal "ManyHandsModel" "ManyHandsModel" "madeBy" "[I") ∈ gtb := gtb_mem 886 (by decide +kernel) rfl
theorem kw_838 : (Jvm.Cond.lays "ManyHandsModel" "ManyHandsModel" "pages" "I") ∈ gtb := gtb_mem 888 (by decide +kernel) rfl
theorem kw_840 : (Jvm.Cond.laysFinal "ManyHandsModel" "ManyHandsModel" "kindOf" "[I") ∈ gtb := gtb_mem 890 (by decide +kernel) rfl
theorem kw_842 : (Jvm.Cond.lays "ManyHandsModel" "ManyHandsModel" "changes" "I") ∈ gtb := gtb_mem 892 (by decide +kernel) rfl
theorem kw_844 : (Jvm.Cond.laysFinal "ManyHandsModel" "ManyHandsModel" "handOf" "[I") ∈ gtb := gtb_mem 894 (by decide +kernel) rfl
theorem kw_846 : (Jvm.Cond.laysFinal "ManyHandsModel" "ManyHandsModel" "pageOf" "[I") ∈ gtb := gtb_mem 896 (by decide +kernel) rfl
theorem kw_848 : (Jvm.Cond.laysFinal "ManyHandsModel" "ManyHandsModel" "countOf" "[I") ∈ gtb := gtb_mem 898 (by decide +kernel) rfl
theorem kw_850 : (Jvm.Cond.laysFinal "ManyHandsModel" "ManyHandsModel" "doing" "[I") ∈ gtb := gtb_mem 900 (by decide +kernel) rfl
theorem kw_852 : (Jvm.Cond.laysFinal "ManyHandsModel" "ManyHandsModel" "one" "[I") ∈ gtb := gtb_mem 902 (by decide +kernel) rfl
theorem kw_854 : (Jvm.Cond.laysFinal "ManyHandsModel" "ManyHandsModel" "two" "[I") ∈ gtb := gtb_mem 904 (by decide +kernel) rfl
theorem kw_856 : (Jvm.Cond.laysFinal "ManyHandsModel" "ManyHandsModel" "valueOf" "[J") ∈ gtb := gtb_mem 906 (by decide +kernel) rfl
theorem kw_858 : (Jvm.Cond.laysFinal "ManyHandsModel" "ManyHandsModel" "knows" "[J") ∈ gtb := gtb_mem 908 (by decide +kernel) rfl
theorem kw_860 : (Jvm.Cond.lays "ManyHandsModel" "ManyHandsModel" "asked" "J") ∈ gtb := gtb_mem 910 (by decide +kernel) rfl
theorem kw_862 : (Jvm.Cond.laysFinal "ManyHandsModel" "ManyHandsModel" "heads" "[I") ∈ gtb := gtb_mem 912 (by decide +kernel) rfl
theorem kw_864 : (Jvm.Cond.lays "ManyHandsModel" "ManyHandsModel" "headMany" "I") ∈ gtb := gtb_mem 914 (by decide +kernel) rfl
theorem kw_866 : (Jvm.Cond.laysFinal "ManyHandsModel" "ManyHandsModel" "row" "[J") ∈ gtb := gtb_mem 916 (by decide +kernel) rfl
theorem kw_868 : (Jvm.Cond.laysFinal "ManyHandsModel" "ManyHandsModel" "other" "[J") ∈ gtb := gtb_mem 918 (by decide +kernel) rfl
theorem kw_870 : (Jvm.Cond.laysFinal "ManyHandsModel" "ManyHandsModel" "leafMany" "[I") ∈ gtb := gtb_mem 920 (by decide +kernel) rfl
theorem kw_872 : (Jvm.Cond.laysFinal "ManyHandsModel" "ManyHandsModel" "isThere" "[Z") ∈ gtb := gtb_mem 922 (by decide +kernel) rfl
theorem kw_874 : (Jvm.Cond.laysFinal "ManyHandsModel" "ManyHandsModel" "leaf" "[J") ∈ gtb := gtb_mem 924 (by decide +kernel) rfl
theorem kw_876 : (Jvm.Cond.laysFinal "ManyHandsModel" "ManyHandsModel" "copied" "[J") ∈ gtb := gtb_mem 926 (by decide +kernel) rfl
theorem kw_878 : (Jvm.Cond.laysFinal "ManyHandsModel" "ManyHandsModel" "copiedThere" "[Z") ∈ gtb := gtb_mem 928 (by decide +kernel) rfl
theorem kw_881 : (Jvm.Cond.methodLink "ManyHandsLaw" (171 : Nat) ({ cls := "ManyHandsModel", name := "finding", desc := "()I" } : Jvm.MethodName)) ∈ gtb := gtb_mem 931 (by decide +kernel) rfl
theorem kw_882 : (Jvm.Cond.instanceMethod ({ cls := "ManyHandsModel", name := "finding", desc := "()I" } : Jvm.MethodName)) ∈ gtb := gtb_mem 932 (by decide +kernel) rfl
theorem kw_883 : (Jvm.Cond.selects "ManyHandsModel" ({ cls := "ManyHandsModel", name := "finding", desc := "()I" } : Jvm.MethodName) ({ cls := "ManyHandsModel", name := "finding", desc := "()I" } : Jvm.MethodName)) ∈ gtb := gtb_mem 933 (by decide +kernel) rfl
set_option maxRecDepth 20000 in
theorem kw_884 : (Jvm.Cond.code ({ cls := "ManyHandsModel", name := "finding", desc := "()I" } : Jvm.MethodName) prog_9_method_4_code (1 : Nat) (Option.some Jvm.ClassFile.FieldType.int)) ∈ gtb := gtb_mem 934 (by exact rfl) rfl
theorem kw_885 : (Jvm.Cond.methodLink "ManyHandsLaw" (175 : Nat) ({ cls := "ManyHandsModel", name := "findings", desc := "(I)I" } : Jvm.MethodName)) ∈ gtb := gtb_mem 935 (by decide +kernel) rfl
theorem kw_886 : (Jvm.Cond.instanceMethod ({ cls := "ManyHandsModel", name := "findings", desc := "(I)I" } : Jvm.MethodName)) ∈ gtb := gtb_mem 936 (by decide +kernel) rfl
theorem kw_887 : (Jvm.Cond.selects "ManyHandsModel" ({ cls := "ManyHandsModel", name := "findings", desc := "(I)I" } : Jvm.MethodName) ({ cls := "ManyHandsModel", name := "findings", desc := "(I)I" } : Jvm.MethodName)) ∈ gtb := gtb_mem 937 (by decide +kernel) rfl
set_option maxRecDepth 20000 in
theorem kw_888 : (Jvm.Cond.code ({ cls := "ManyHandsModel", name := "findings", desc := "(I)I" } : Jvm.MethodName) prog_9_method_5_code (2 : Nat) (Option.some Jvm.ClassFile.FieldType.int)) ∈ gtb := gtb_mem 938 (by exact rfl) rfl
theorem kw_889 : (Jvm.Cond.methodLink "ManyHandsModel" (82 : Nat) ({ cls := "ManyHandsModel", name := "in", desc := "(III)Z" } : Jvm.MethodName)) ∈ gtb := gtb_mem 939 (by decide +kernel) rfl
theorem kw_890 : (Jvm.Cond.static ({ cls := "ManyHandsModel", name := "in", desc := "(III)Z" } : Jvm.MethodName)) ∈ gtb := gtb_mem 940 (by decide +kernel) rfl
set_option maxRecDepth 20000 in
theorem kw_891 : (Jvm.Cond.code ({ cls := "ManyHandsModel", name := "in", desc := "(III)Z" } : Jvm.MethodName) prog_9_method_2_code (3 : Nat) (Option.some Jvm.ClassFile.FieldType.boolean)) ∈ gtb := gtb_mem 941 (by exact rfl) rfl
theorem kw_892 : (Jvm.Cond.methodLink "ManyHandsLaw" (17 : Nat) ({ cls := "ManyHandsModel", name := "hand", desc := "()I" } : Jvm.MethodName)) ∈ gtb := gtb_mem 942 (by decide +kernel) rfl
theorem kw_893 : (Jvm.Cond.instanceMethod ({ cls := "ManyHandsModel", name := "hand", desc := "()I" } : Jvm.MethodName)) ∈ gtb := gtb_mem 943 (by decide +kernel) rfl
theorem kw_894 : (Jvm.Cond.selects "ManyHandsModel" ({ cls := "ManyHandsModel", name := "hand", desc := "()I" } : Jvm.MethodName) ({ cls := "ManyHandsModel", name := "hand", desc := "()I" } : Jvm.MethodName)) ∈ gtb := gtb_mem 944 (by decide +kernel) rfl
set_option maxRecDepth 20000 in
theorem kw_895 : (Jvm.Cond.code ({ cls := "ManyHandsModel", name := "hand", desc := "()I" } : Jvm.MethodName) prog_9_method_15_code (1 : Nat) (Option.some Jvm.ClassFile.FieldType.int)) ∈ gtb := gtb_mem 945 (by exact rfl) rfl
theorem kw_896 : (Jvm.Cond.methodLink "ManyHandsLaw" (22 : Nat) ({ cls := "ManyHandsModel", name := "page", desc := "(I)I" } : Jvm.MethodName)) ∈ gtb := gtb_mem 946 (by decide +kernel) rfl
theorem kw_897 : (Jvm.Cond.instanceMethod ({ cls := "ManyHandsModel", name := "page", desc := "(I)I" } : Jvm.MethodName)) ∈ gtb := gtb_mem 947 (by decide +kernel) rfl
theorem kw_898 : (Jvm.Cond.selects "ManyHandsModel" ({ cls := "ManyHandsModel", name := "page", desc := "(I)I" } : Jvm.MethodName) ({ cls := "ManyHandsModel", name := "page", desc := "(I)I" } : Jvm.MethodName)) ∈ gtb := gtb_mem 948 (by decide +kernel) rfl
set_option maxRecDepth 20000 in
theorem kw_899 : (Jvm.Cond.code ({ cls := "ManyHandsModel", name := "page", desc := "(I)I" } : Jvm.MethodName) prog_9_method_16_code (2 : Nat) (Option.some Jvm.ClassFile.FieldType.int)) ∈ gtb := gtb_mem 949 (by exact rfl) rfl
theorem kw_900 : (Jvm.Cond.methodLink "ManyHandsLaw" (27 : Nat) ({ cls := "ManyHandsModel", name := "is", desc := "(II)I" } : Jvm.MethodName)) ∈ gtb := gtb_mem 950 (by decide +kernel) rfl
theorem kw_901 : (Jvm.Cond.instanceMethod ({ cls := "ManyHandsModel", name := "is", desc := "(II)I" } : Jvm.MethodName)) ∈ gtb := gtb_mem 951 (by decide +kernel) rfl
theorem kw_902 : (Jvm.Cond.selects "ManyHandsModel" ({ cls := "ManyHandsModel", name := "is", desc := "(II)I" } : Jvm.MethodName) ({ cls := "ManyHandsModel", name := "is", desc := "(II)I" } : Jvm.MethodName)) ∈ gtb := gtb_mem 952 (by decide +kernel) rfl
set_option maxRecDepth 20000 in
theorem kw_903 : (Jvm.Cond.code ({ cls := "ManyHandsModel", name := "is", desc := "(II)I" } : Jvm.MethodName) prog_9_method_18_code (3 : Nat) (Option.some Jvm.ClassFile.FieldType.int)) ∈ gtb := gtb_mem 953 (by exact rfl) rfl
theorem kw_904 : (Jvm.Cond.methodLink "ManyHandsModel" (101 : Nat) ({ cls := "ManyHandsModel", name := "isPage", desc := "(I)Z" } : Jvm.MethodName)) ∈ gtb := gtb_mem 954 (by decide +kernel) rfl
theorem kw_906 : (Jvm.Cond.instanceMethod ({ cls := "ManyHandsModel", name := "isPage", desc := "(I)Z" } : Jvm.MethodName)) ∈ gtb := gtb_mem 956 (by decide +kernel) rfl
set_option maxRecDepth 20000 in
theorem kw_907 : (Jvm.Cond.code ({ cls := "ManyHandsModel", name := "isPage", desc := "(I)Z" } : Jvm.MethodName) prog_9_method_13_code (2 : Nat) (Option.some Jvm.ClassFile.FieldType.boolean)) ∈ gtb := gtb_mem 957 (by exact rfl) rfl
theorem kw_908 : (Jvm.Cond.methodLink "ManyHandsModel" (105 : Nat) ({ cls := "ManyHandsModel", name := "isOf", desc := "(II)Z" } : Jvm.MethodName)) ∈ gtb := gtb_mem 958 (by decide +kernel) rfl
theorem kw_910 : (Jvm.Cond.instanceMethod ({ cls := "ManyHandsModel", name := "isOf", desc := "(II)Z" } : Jvm.MethodName)) ∈ gtb := gtb_mem 960 (by decide +kernel) rfl
set_option maxRecDepth 20000 in
theorem kw_911 : (Jvm.Cond.code ({ cls := "ManyHandsModel", name := "isOf", desc := "(II)Z" } : Jvm.MethodName) prog_9_method_17_code (4 : Nat) (Option.some Jvm.ClassFile.FieldType.boolean)) ∈ gtb := gtb_mem 961 (by exact rfl) rfl
theorem kw_912 : (Jvm.Cond.methodLink "ManyHandsLaw" (32 : Nat) ({ cls := "ManyHandsModel", name := "keep", desc := "(IIZ)I" } : Jvm.MethodName)) ∈ gtb := gtb_mem 962 (by decide +kernel) rfl
theorem kw_913 : (Jvm.Cond.instanceMethod ({ cls := "ManyHandsModel", name := "keep", desc := "(IIZ)I" } : Jvm.MethodName)) ∈ gtb := gtb_mem 963 (by decide +kernel) rfl
theorem kw_914 : (Jvm.Cond.selects "ManyHandsModel" ({ cls := "ManyHandsModel", name := "keep", desc := "(IIZ)I" } : Jvm.MethodName) ({ cls := "ManyHandsModel", name := "keep", desc := "(IIZ)I" } : Jvm.MethodName)) ∈ gtb := gtb_mem 964 (by decide +kernel) rfl
set_option maxRecDepth 20000 in
theorem kw_915 : (Jvm.Cond.code ({ cls := "ManyHandsModel", name := "keep", desc := "(IIZ)I" } : Jvm.MethodName) prog_9_method_19_code (5 : Nat) (Option.some Jvm.ClassFile.FieldType.int)) ∈ gtb := gtb_mem 965 (by exact rfl) rfl
theorem kw_916 : (Jvm.Cond.methodLink "ManyHandsModel" (109 : Nat) ({ cls := "ManyHandsModel", name := "isHand", desc := "(I)Z" } : Jvm.MethodName)) ∈ gtb := gtb_mem 966 (by decide +kernel) rfl
theorem kw_918 : (Jvm.Cond.instanceMethod ({ cls := "ManyHandsModel", name := "isHand", desc := "(I)Z" } : Jvm.MethodName)) ∈ gtb := gtb_mem 968 (by decide +kernel) rfl
set_option maxRecDepth 20000 in
theorem kw_919 : (Jvm.Cond.code ({ cls := "ManyHandsModel", name := "isHand", desc := "(I)Z" } : Jvm.MethodName) prog_9_method_12_code (2 : Nat) (Option.some Jvm.ClassFile.FieldType.boolean)) ∈ gtb := gtb_mem 969 (by exact rfl) rfl
theorem kw_920 : (Jvm.Cond.methodLink "ManyHandsLaw" (39 : Nat) ({ cls := "ManyHandsModel", name := "write", desc := "(IIJ)I" } : Jvm.MethodName)) ∈ gtb := gtb_mem 970 (by decide +kernel) rfl
theorem kw_921 : (Jvm.Cond.instanceMethod ({ cls := "ManyHandsModel", name := "write", desc := "(IIJ)I" } : Jvm.MethodName)) ∈ gtb := gtb_mem 971 (by decide +kernel) rfl
theorem kw_922 : (Jvm.Cond.selects "ManyHandsModel" ({ cls := "ManyHandsModel", name := "write", desc := "(IIJ)I" } : Jvm.MethodName) ({ cls := "ManyHandsModel", name := "write", desc := "(IIJ)I" } : Jvm.MethodName)) ∈ gtb := gtb_mem 972 (by decide +kernel) rfl
set_option maxRecDepth 20000 in
theorem kw_923 : (Jvm.Cond.code ({ cls := "ManyHandsModel", name := "write", desc := "(IIJ)I" } : Jvm.MethodName) prog_9_method_26_code (6 : Nat) (Option.some Jvm.ClassFile.FieldType.int)) ∈ gtb := gtb_mem 973 (by exact rfl) rfl
theorem kw_924 : (Jvm.Cond.methodLink "ManyHandsModel" (130 : Nat) ({ cls := "ManyHandsModel", name := "needMake", desc := "(ZIII)I" } : Jvm.MethodName)) ∈ gtb := gtb_mem 974 (by decide +kernel) rfl
theorem kw_926 : (Jvm.Cond.instanceMethod ({ cls := "ManyHandsModel", name := "needMake", desc := "(ZIII)I" } : Jvm.MethodName)) ∈ gtb := gtb_mem 976 (by decide +kernel) rfl
set_option maxRecDepth 20000 in
theorem kw_927 : (Jvm.Cond.code ({ cls := "ManyHandsModel", name := "needMake", desc := "(ZIII)I" } : Jvm.MethodName) prog_9_method_23_code (5 : Nat) (Option.some Jvm.ClassFile.FieldType.int)) ∈ gtb := gtb_mem 977 (by exact rfl) rfl
theorem kw_928 : (Jvm.Cond.methodLink "ManyHandsModel" (112 : Nat) ({ cls := "ManyHandsModel", name := "ownOf", desc := "(I)I" } : Jvm.MethodName)) ∈ gtb := gtb_mem 978 (by decide +kernel) rfl
theorem kw_930 : (Jvm.Cond.instanceMethod ({ cls := "ManyHandsModel", name := "ownOf", desc := "(I)I" } : Jvm.MethodName)) ∈ gtb := gtb_mem 980 (by decide +kernel) rfl
set_option maxRecDepth 20000 in
theorem kw_931 : (Jvm.Cond.code ({ cls := "ManyHandsModel", name := "ownOf", desc := "(I)I" } : Jvm.MethodName) prog_9_method_22_code (4 : Nat) (Option.some Jvm.ClassFile.FieldType.int)) ∈ gtb := gtb_mem 981 (by exact rfl) rfl
theorem kw_932 : (Jvm.Cond.methodLink "ManyHandsModel" (91 : Nat) ({ cls := "ManyHandsModel", name := "isIn", desc := "([JII)Z" } : Jvm.MethodName)) ∈ gtb := gtb_mem 982 (by decide +kernel) rfl
theorem kw_933 : (Jvm.Cond.static ({ cls := "ManyHandsModel", name := "isIn", desc := "([JII)Z" } : Jvm.MethodName)) ∈ gtb := gtb_mem 983 (by decide +kernel) rfl
set_option maxRecDepth 20000 in
theorem kw_934 : (Jvm.Cond.code ({ cls := "ManyHandsModel", name := "isIn", desc := "([JII)Z" } : Jvm.MethodName) prog_9_method_6_code (3 : Nat) (Option.some Jvm.ClassFile.FieldType.boolean)) ∈ gtb := gtb_mem 984 (by exact rfl) rfl
theorem kw_935 : (Jvm.Cond.methodLink "ManyHandsModel" (116 : Nat) ({ cls := "ManyHandsModel", name := "needSee", desc := "(III)I" } : Jvm.MethodName)) ∈ gtb := gtb_mem 985 (by decide +kernel) rfl
theorem kw_937 : (Jvm.Cond.instanceMethod ({ cls := "ManyHandsModel", name := "needSee", desc := "(III)I" } : Jvm.MethodName)) ∈ gtb := gtb_mem 987 (by decide +kernel) rfl
set_option maxRecDepth 20000 in
theorem kw_938 : (Jvm.Cond.code ({ cls := "ManyHandsModel", name := "needSee", desc := "(III)I" } : Jvm.MethodName) prog_9_method_24_code (4 : Nat) (Option.some Jvm.ClassFile.FieldType.int)) ∈ gtb := gtb_mem 988 (by exact rfl) rfl
theorem kw_939 : (Jvm.Cond.methodLink "ManyHandsModel" (120 : Nat) ({ cls := "ManyHandsModel", name := "meets", desc := "(I)I" } : Jvm.MethodName)) ∈ gtb := gtb_mem 989 (by decide +kernel) rfl
theorem kw_941 : (Jvm.Cond.instanceMethod ({ cls := "ManyHandsModel", name := "meets", desc := "(I)I" } : Jvm.MethodName)) ∈ gtb := gtb_mem 991 (by decide +kernel) rfl
set_option maxRecDepth 20000 in
theorem kw_942 : (Jvm.Cond.code ({ cls := "ManyHandsModel", name := "meets", desc := "(I)I" } : Jvm.MethodName) prog_9_method_3_code (2 : Nat) (Option.some Jvm.ClassFile.FieldType.int)) ∈ gtb := gtb_mem 992 (by exact rfl) rfl
theorem kw_943 : (Jvm.Cond.methodLink "ManyHandsModel" (134 : Nat) ({ cls := "ManyHandsModel", name := "make", desc := "(IIIIIJ)I" } : Jvm.MethodName)) ∈ gtb := gtb_mem 993 (by decide +kernel) rfl
theorem kw_945 : (Jvm.Cond.instanceMethod ({ cls := "ManyHandsModel", name := "make", desc := "(IIIIIJ)I" } : Jvm.MethodName)) ∈ gtb := gtb_mem 995 (by decide +kernel) rfl
set_option maxRecDepth 20000 in
theorem kw_946 : (Jvm.Cond.code ({ cls := "ManyHandsModel", name := "make", desc := "(IIIIIJ)I" } : Jvm.MethodName) prog_9_method_25_code (11 : Nat) (Option.some Jvm.ClassFile.FieldType.int)) ∈ gtb := gtb_mem 996 (by exact rfl) rfl
theorem kw_947 : (Jvm.Cond.methodLink "ManyHandsModel" (123 : Nat) ({ cls := "ManyHandsModel", name := "greatestCount", desc := "(I)I" } : Jvm.MethodName)) ∈ gtb := gtb_mem 997 (by decide +kernel) rfl
theorem kw_949 : (Jvm.Cond.instanceMethod ({ cls := "ManyHandsModel", name := "greatestCount", desc := "(I)I" } : Jvm.MethodName)) ∈ gtb := gtb_mem 999 (by decide +kernel) rfl
set_option maxRecDepth 20000 in
theorem kw_950 : (Jvm.Cond.code ({ cls := "ManyHandsModel", name := "greatestCount", desc := "(I)I" } : Jvm.MethodName) prog_9_method_21_code (4 : Nat) (Option.some Jvm.ClassFile.FieldType.int)) ∈ gtb := gtb_mem 1000 (by exact rfl) rfl
theorem kw_951 : (Jvm.Cond.methodLink "ManyHandsModel" (126 : Nat) ({ cls := "ManyHandsModel", name := "enter", desc := "([JII)V" } : Jvm.MethodName)) ∈ gtb := gtb_mem 1001 (by decide +kernel) rfl
theorem kw_952 : (Jvm.Cond.static ({ cls := "ManyHandsModel", name := "enter", desc := "([JII)V" } : Jvm.MethodName)) ∈ gtb := gtb_mem 1002 (by decide +kernel) rfl
set_option maxRecDepth 20000 in
theorem kw_953 : (Jvm.Cond.code ({ cls := "ManyHandsModel", name := "enter", desc := "([JII)V" } : Jvm.MethodName) prog_9_method_7_code (3 : Nat) (Option.none : Option Jvm.ClassFile.FieldType)) ∈ gtb := gtb_mem 1003 (by exact rfl) rfl
theorem kw_954 : (Jvm.Cond.methodLink "ManyHandsLaw" (43 : Nat) ({ cls := "ManyHandsModel", name := "add", desc := "(IIJ)I" } : Jvm.MethodName)) ∈ gtb := gtb_mem 1004 (by decide +kernel) rfl
theorem kw_955 : (Jvm.Cond.instanceMethod ({ cls := "ManyHandsModel", name := "add", desc := "(IIJ)I" } : Jvm.MethodName)) ∈ gtb := gtb_mem 1005 (by decide +kernel) rfl
theorem kw_956 : (Jvm.Cond.selects "ManyHandsModel" ({ cls := "ManyHandsModel", name := "add", desc := "(IIJ)I" } : Jvm.MethodName) ({ cls := "ManyHandsModel", name := "add", desc := "(IIJ)I" } : Jvm.MethodName)) ∈ gtb := gtb_mem 1006 (by decide +kernel) rfl
set_option maxRecDepth 20000 in
theorem kw_957 : (Jvm.Cond.code ({ cls := "ManyHandsModel", name := "add", desc := "(IIJ)I" } : Jvm.MethodName) prog_9_method_27_code (6 : Nat) (Option.some Jvm.ClassFile.FieldType.int)) ∈ gtb := gtb_mem 1007 (by exact rfl) rfl
theorem kw_958 : (Jvm.Cond.methodLink "ManyHandsModel" (138 : Nat) ({ cls := "ManyHandsModel", name := "isShare", desc := "(J)Z" } : Jvm.MethodName)) ∈ gtb := gtb_mem 1008 (by decide +kernel) rfl
theorem kw_959 : (Jvm.Cond.static ({ cls := "ManyHandsModel", name := "isShare", desc := "(J)Z" } : Jvm.MethodName)) ∈ gtb := gtb_mem 1009 (by decide +kernel) rfl
set_option maxRecDepth 20000 in
theorem kw_960 : (Jvm.Cond.code ({ cls := "ManyHandsModel", name := "isShare", desc := "(J)Z" } : Jvm.MethodName) prog_9_method_30_code (2 : Nat) (Option.some Jvm.ClassFile.FieldType.boolean)) ∈ gtb := gtb_mem 1010 (by exact rfl) rfl
theorem kw_961 : (Jvm.Cond.constantLong "ManyHandsModel" (145 : Nat) (1000000000 : Int64)) ∈ gtb := gtb_mem 1011 (by decide +kernel) rfl
theorem kw_962 : (Jvm.Cond.methodLink "ManyHandsLaw" (48 : Nat) ({ cls := "ManyHandsModel", name := "put", desc := "(III)I" } : Jvm.MethodName)) ∈ gtb := gtb_mem 1012 (by decide +kernel) rfl
theorem kw_963 : (Jvm.Cond.instanceMethod ({ cls := "ManyHandsModel", name := "put", desc := "(III)I" } : Jvm.MethodName)) ∈ gtb := gtb_mem 1013 (by decide +kernel) rfl
theorem kw_964 : (Jvm.Cond.selects "ManyHandsModel" ({ cls := "ManyHandsModel", name := "put", desc := "(III)I" } : Jvm.MethodName) ({ cls := "ManyHandsModel", name := "put", desc := "(III)I" } : Jvm.MethodName)) ∈ gtb := gtb_mem 1014 (by decide +kernel) rfl
set_option maxRecDepth 20000 in
theorem kw_965 : (Jvm.Cond.code ({ cls := "ManyHandsModel", name := "put", desc := "(III)I" } : Jvm.MethodName) prog_9_method_28_code (5 : Nat) (Option.some Jvm.ClassFile.FieldType.int)) ∈ gtb := gtb_mem 1015 (by exact rfl) rfl
theorem kw_966 : (Jvm.Cond.methodLink "ManyHandsLaw" (52 : Nat) ({ cls := "ManyHandsModel", name := "take", desc := "(III)I" } : Jvm.MethodName)) ∈ gtb := gtb_mem 1016 (by decide +kernel) rfl
theorem kw_967 : (Jvm.Cond.instanceMethod ({ cls := "ManyHandsModel", name := "take", desc := "(III)I" } : Jvm.MethodName)) ∈ gtb := gtb_mem 1017 (by decide +kernel) rfl
theorem kw_968 : (Jvm.Cond.selects "ManyHandsModel" ({ cls := "ManyHandsModel", name := "take", desc := "(III)I" } : Jvm.MethodName) ({ cls := "ManyHandsModel", name := "take", desc := "(III)I" } : Jvm.MethodName)) ∈ gtb := gtb_mem 1018 (by decide +kernel) rfl
set_option maxRecDepth 20000 in
theorem kw_969 : (Jvm.Cond.code ({ cls := "ManyHandsModel", name := "take", desc := "(III)I" } : Jvm.MethodName) prog_9_method_29_code (5 : Nat) (Option.some Jvm.ClassFile.FieldType.int)) ∈ gtb := gtb_mem 1019 (by exact rfl) rfl
theorem kw_970 : (Jvm.Cond.methodLink "ManyHandsModel" (142 : Nat) ({ cls := "ManyHandsModel", name := "countIn", desc := "(III)I" } : Jvm.MethodName)) ∈ gtb := gtb_mem 1020 (by decide +kernel) rfl
theorem kw_972 : (Jvm.Cond.instanceMethod ({ cls := "ManyHandsModel", name := "countIn", desc := "(III)I" } : Jvm.MethodName)) ∈ gtb := gtb_mem 1022 (by decide +kernel) rfl
set_option maxRecDepth 20000 in
theorem kw_973 : (Jvm.Cond.code ({ cls := "ManyHandsModel", name := "countIn", desc := "(III)I" } : Jvm.MethodName) prog_9_method_54_code (8 : Nat) (Option.some Jvm.ClassFile.FieldType.int)) ∈ gtb := gtb_mem 1023 (by exact rfl) rfl
theorem kw_974 : (Jvm.Cond.methodLink "ManyHandsModel" (185 : Nat) ({ cls := "ManyHandsModel", name := "isOn", desc := "(IIII)Z" } : Jvm.MethodName)) ∈ gtb := gtb_mem 1024 (by decide +kernel) rfl
theorem kw_976 : (Jvm.Cond.instanceMethod ({ cls := "ManyHandsModel", name := "isOn", desc := "(IIII)Z" } : Jvm.MethodName)) ∈ gtb := gtb_mem 1026 (by decide +kernel) rfl
set_option maxRecDepth 20000 in
theorem kw_977 : (Jvm.Cond.code ({ cls := "ManyHandsModel", name := "isOn", desc := "(IIII)Z" } : Jvm.MethodName) prog_9_method_45_code (5 : Nat) (Option.some Jvm.ClassFile.FieldType.boolean)) ∈ gtb := gtb_mem 1027 (by exact rfl) rfl
theorem kw_978 : (Jvm.Cond.methodLink "ManyHandsLaw" (57 : Nat) ({ cls := "ManyHandsModel", name := "give", desc := "(IIIJ)I" } : Jvm.MethodName)) ∈ gtb := gtb_mem 1028 (by decide +kernel) rfl
theorem kw_979 : (Jvm.Cond.instanceMethod ({ cls := "ManyHandsModel", name := "give", desc := "(IIIJ)I" } : Jvm.MethodName)) ∈ gtb := gtb_mem 1029 (by decide +kernel) rfl
theorem kw_980 : (Jvm.Cond.selects "ManyHandsModel" ({ cls := "ManyHandsModel", name := "give", desc := "(IIIJ)I" } : Jvm.MethodName) ({ cls := "ManyHandsModel", name := "give", desc := "(IIIJ)I" } : Jvm.MethodName)) ∈ gtb := gtb_mem 1030 (by decide +kernel) rfl
set_option maxRecDepth 20000 in
theorem kw_981 : (Jvm.Cond.code ({ cls := "ManyHandsModel", name := "give", desc := "(IIIJ)I" } : Jvm.MethodName) prog_9_method_31_code (7 : Nat) (Option.some Jvm.ClassFile.FieldType.int)) ∈ gtb := gtb_mem 1031 (by exact rfl) rfl
theorem kw_982 : (Jvm.Cond.methodLink "ManyHandsModel" (147 : Nat) ({ cls := "ManyHandsModel", name := "rightsOf", desc := "(III)J" } : Jvm.MethodName)) ∈ gtb := gtb_mem 1032 (by decide +kernel) rfl
theorem kw_984 : (Jvm.Cond.instanceMethod ({ cls := "ManyHandsModel", name := "rightsOf", desc := "(III)J" } : Jvm.MethodName)) ∈ gtb := gtb_mem 1034 (by decide +kernel) rfl
set_option maxRecDepth 20000 in
theorem kw_985 : (Jvm.Cond.code ({ cls := "ManyHandsModel", name := "rightsOf", desc := "(III)J" } : Jvm.MethodName) prog_9_method_48_code (8 : Nat) (Option.some Jvm.ClassFile.FieldType.long)) ∈ gtb := gtb_mem 1035 (by exact rfl) rfl
theorem kw_986 : (Jvm.Cond.methodLink "ManyHandsLaw" (61 : Nat) ({ cls := "ManyHandsModel", name := "spend", desc := "(IIJ)I" } : Jvm.MethodName)) ∈ gtb := gtb_mem 1036 (by decide +kernel) rfl
theorem kw_987 : (Jvm.Cond.instanceMethod ({ cls := "ManyHandsModel", name := "spend", desc := "(IIJ)I" } : Jvm.MethodName)) ∈ gtb := gtb_mem 1037 (by decide +kernel) rfl
theorem kw_988 : (Jvm.Cond.selects "ManyHandsModel" ({ cls := "ManyHandsModel", name := "spend", desc := "(IIJ)I" } : Jvm.MethodName) ({ cls := "ManyHandsModel", name := "spend", desc := "(IIJ)I" } : Jvm.MethodName)) ∈ gtb := gtb_mem 1038 (by decide +kernel) rfl
set_option maxRecDepth 20000 in
theorem kw_989 : (Jvm.Cond.code ({ cls := "ManyHandsModel", name := "spend", desc := "(IIJ)I" } : Jvm.MethodName) prog_9_method_32_code (6 : Nat) (Option.some Jvm.ClassFile.FieldType.int)) ∈ gtb := gtb_mem 1039 (by exact rfl) rfl
theorem kw_990 : (Jvm.Cond.methodLink "ManyHandsLaw" (65 : Nat) ({ cls := "ManyHandsModel", name := "raise", desc := "(IIZ)I" } : Jvm.MethodName)) ∈ gtb := gtb_mem 1040 (by decide +kernel) rfl
theorem kw_991 : (Jvm.Cond.instanceMethod ({ cls := "ManyHandsModel", name := "raise", desc := "(IIZ)I" } : Jvm.MethodName)) ∈ gtb := gtb_mem 1041 (by decide +kernel) rfl
theorem kw_992 : (Jvm.Cond.selects "ManyHandsModel" ({ cls := "ManyHandsModel", name := "raise", desc := "(IIZ)I" } : Jvm.MethodName) ({ cls := "ManyHandsModel", name := "raise", desc := "(IIZ)I" } : Jvm.MethodName)) ∈ gtb := gtb_mem 1042 (by decide +kernel) rfl
set_option maxRecDepth 20000 in
theorem kw_993 : (Jvm.Cond.code ({ cls := "ManyHandsModel", name := "raise", desc := "(IIZ)I" } : Jvm.MethodName) prog_9_method_33_code (5 : Nat) (Option.some Jvm.ClassFile.FieldType.int)) ∈ gtb := gtb_mem 1043 (by exact rfl) rfl
theorem kw_994 : (Jvm.Cond.methodLink "ManyHandsLaw" (69 : Nat) ({ cls := "ManyHandsModel", name := "change", desc := "(II)I" } : Jvm.MethodName)) ∈ gtb := gtb_mem 1044 (by decide +kernel) rfl
theorem kw_995 : (Jvm.Cond.instanceMethod ({ cls := "ManyHandsModel", name := "change", desc := "(II)I" } : Jvm.MethodName)) ∈ gtb := gtb_mem 1045 (by decide +kernel) rfl
theorem kw_996 : (Jvm.Cond.selects "ManyHandsModel" ({ cls := "ManyHandsModel", name := "change", desc := "(II)I" } : Jvm.MethodName) ({ cls := "ManyHandsModel", name := "change", desc := "(II)I" } : Jvm.MethodName)) ∈ gtb := gtb_mem 1046 (by decide +kernel) rfl
set_option maxRecDepth 20000 in
theorem kw_997 : (Jvm.Cond.code ({ cls := "ManyHandsModel", name := "change", desc := "(II)I" } : Jvm.MethodName) prog_9_method_34_code (5 : Nat) (Option.some Jvm.ClassFile.FieldType.int)) ∈ gtb := gtb_mem 1047 (by exact rfl) rfl
theorem kw_998 : (Jvm.Cond.methodLink "ManyHandsModel" (151 : Nat) ({ cls := "ManyHandsModel", name := "isChange", desc := "(I)Z" } : Jvm.MethodName)) ∈ gtb := gtb_mem 1048 (by decide +kernel) rfl
theorem kw_1000 : (Jvm.Cond.instanceMethod ({ cls := "ManyHandsModel", name := "isChange", desc := "(I)Z" } : Jvm.MethodName)) ∈ gtb := gtb_mem 1050 (by decide +kernel) rfl
set_option maxRecDepth 20000 in
theorem kw_1001 : (Jvm.Cond.code ({ cls := "ManyHandsModel", name := "isChange", desc := "(I)Z" } : Jvm.MethodName) prog_9_method_14_code (2 : Nat) (Option.some Jvm.ClassFile.FieldType.boolean)) ∈ gtb := gtb_mem 1051 (by exact rfl) rfl
theorem kw_1002 : (Jvm.Cond.methodLink "ManyHandsModel" (154 : Nat) ({ cls := "ManyHandsModel", name := "size", desc := "([JI)I" } : Jvm.MethodName)) ∈ gtb := gtb_mem 1052 (by decide +kernel) rfl
theorem kw_1004 : (Jvm.Cond.instanceMethod ({ cls := "ManyHandsModel", name := "size", desc := "([JI)I" } : Jvm.MethodName)) ∈ gtb := gtb_mem 1054 (by decide +kernel) rfl
set_option maxRecDepth 20000 in
theorem kw_1005 : (Jvm.Cond.code ({ cls := "ManyHandsModel", name := "size", desc := "([JI)I" } : Jvm.MethodName) prog_9_method_10_code (5 : Nat) (Option.some Jvm.ClassFile.FieldType.int)) ∈ gtb := gtb_mem 1055 (by exact rfl) rfl
theorem kw_1006 : (Jvm.Cond.methodLink "ManyHandsLaw" (73 : Nat) ({ cls := "ManyHandsModel", name := "knows", desc := "(II)I" } : Jvm.MethodName)) ∈ gtb := gtb_mem 1056 (by decide +kernel) rfl
theorem kw_1007 : (Jvm.Cond.instanceMethod ({ cls := "ManyHandsModel", name := "knows", desc := "(II)I" } : Jvm.MethodName)) ∈ gtb := gtb_mem 1057 (by decide +kernel) rfl
theorem kw_1008 : (Jvm.Cond.selects "ManyHandsModel" ({ cls := "ManyHandsModel", name := "knows", desc := "(II)I" } : Jvm.MethodName) ({ cls := "ManyHandsModel", name := "knows", desc := "(II)I" } : Jvm.MethodName)) ∈ gtb := gtb_mem 1058 (by decide +kernel) rfl
set_option maxRecDepth 20000 in
theorem kw_1009 : (Jvm.Cond.code ({ cls := "ManyHandsModel", name := "knows", desc := "(II)I" } : Jvm.MethodName) prog_9_method_35_code (3 : Nat) (Option.some Jvm.ClassFile.FieldType.int)) ∈ gtb := gtb_mem 1059 (by exact rfl) rfl
theorem kw_1010 : (Jvm.Cond.methodLink "ManyHandsLaw" (77 : Nat) ({ cls := "ManyHandsModel", name := "come", desc := "(II)I" } : Jvm.MethodName)) ∈ gtb := gtb_mem 1060 (by decide +kernel) rfl
theorem kw_1011 : (Jvm.Cond.instanceMethod ({ cls := "ManyHandsModel", name := "come", desc := "(II)I" } : Jvm.MethodName)) ∈ gtb := gtb_mem 1061 (by decide +kernel) rfl
theorem kw_1012 : (Jvm.Cond.selects "ManyHandsModel" ({ cls := "ManyHandsModel", name := "come", desc := "(II)I" } : Jvm.MethodName) ({ cls := "ManyHandsModel", name := "come", desc := "(II)I" } : Jvm.MethodName)) ∈ gtb := gtb_mem 1062 (by decide +kernel) rfl
set_option maxRecDepth 20000 in
theorem kw_1013 : (Jvm.Cond.code ({ cls := "ManyHandsModel", name := "come", desc := "(II)I" } : Jvm.MethodName) prog_9_method_39_code (3 : Nat) (Option.some Jvm.ClassFile.FieldType.int)) ∈ gtb := gtb_mem 1063 (by exact rfl) rfl
theorem kw_1014 : (Jvm.Cond.methodLink "ManyHandsModel" (162 : Nat) ({ cls := "ManyHandsModel", name := "isReady", desc := "(II)Z" } : Jvm.MethodName)) ∈ gtb := gtb_mem 1064 (by decide +kernel) rfl
theorem kw_1016 : (Jvm.Cond.instanceMethod ({ cls := "ManyHandsModel", name := "isReady", desc := "(II)Z" } : Jvm.MethodName)) ∈ gtb := gtb_mem 1066 (by decide +kernel) rfl
set_option maxRecDepth 20000 in
theorem kw_1017 : (Jvm.Cond.code ({ cls := "ManyHandsModel", name := "isReady", desc := "(II)Z" } : Jvm.MethodName) prog_9_method_36_code (3 : Nat) (Option.some Jvm.ClassFile.FieldType.boolean)) ∈ gtb := gtb_mem 1067 (by exact rfl) rfl
theorem kw_1018 : (Jvm.Cond.methodLink "ManyHandsModel" (158 : Nat) ({ cls := "ManyHandsModel", name := "isWithin", desc := "([JI[JI)Z" } : Jvm.MethodName)) ∈ gtb := gtb_mem 1068 (by decide +kernel) rfl
theorem kw_1019 : (Jvm.Cond.static ({ cls := "ManyHandsModel", name := "isWithin", desc := "([JI[JI)Z" } : Jvm.MethodName)) ∈ gtb := gtb_mem 1069 (by decide +kernel) rfl
set_option maxRecDepth 20000 in
theorem kw_1020 : (Jvm.Cond.code ({ cls := "ManyHandsModel", name := "isWithin", desc := "([JI[JI)Z" } : Jvm.MethodName) prog_9_method_11_code (6 : Nat) (Option.some Jvm.ClassFile.FieldType.boolean)) ∈ gtb := gtb_mem 1070 (by exact rfl) rfl
theorem kw_1021 : (Jvm.Cond.constantLong "ManyHandsModel" (86 : Nat) (-1 : Int64)) ∈ gtb := gtb_mem 1071 (by decide +kernel) rfl
theorem kw_1022 : (Jvm.Cond.methodLink "ManyHandsModel" (174 : Nat) ({ cls := "ManyHandsModel", name := "takes", desc := "(II)I" } : Jvm.MethodName)) ∈ gtb := gtb_mem 1072 (by decide +kernel) rfl
theorem kw_1024 : (Jvm.Cond.instanceMethod ({ cls := "ManyHandsModel", name := "takes", desc := "(II)I" } : Jvm.MethodName)) ∈ gtb := gtb_mem 1074 (by decide +kernel) rfl
set_option maxRecDepth 20000 in
theorem kw_1025 : (Jvm.Cond.code ({ cls := "ManyHandsModel", name := "takes", desc := "(II)I" } : Jvm.MethodName) prog_9_method_38_code (5 : Nat) (Option.some Jvm.ClassFile.FieldType.int)) ∈ gtb := gtb_mem 1075 (by exact rfl) rfl
theorem kw_1026 : (Jvm.Cond.methodLink "ManyHandsModel" (168 : Nat) ({ cls := "ManyHandsModel", name := "leave", desc := "([JII)V" } : Jvm.MethodName)) ∈ gtb := gtb_mem 1076 (by decide +kernel) rfl
theorem kw_1027 : (Jvm.Cond.static ({ cls := "ManyHandsModel", name := "leave", desc := "([JII)V" } : Jvm.MethodName)) ∈ gtb := gtb_mem 1077 (by decide +kernel) rfl
set_option maxRecDepth 20000 in
theorem kw_1028 : (Jvm.Cond.code ({ cls := "ManyHandsModel", name := "leave", desc := "([JII)V" } : Jvm.MethodName) prog_9_method_8_code (3 : Nat) (Option.none : Option Jvm.ClassFile.FieldType)) ∈ gtb := gtb_mem 1078 (by exact rfl) rfl
theorem kw_1029 : (Jvm.Cond.methodLink "ManyHandsModel" (171 : Nat) ({ cls := "ManyHandsModel", name := "nextReady", desc := "(I)I" } : Jvm.MethodName)) ∈ gtb := gtb_mem 1079 (by decide +kernel) rfl
theorem kw_1031 : (Jvm.Cond.instanceMethod ({ cls := "ManyHandsModel", name := "nextReady", desc := "(I)I" } : Jvm.MethodName)) ∈ gtb := gtb_mem 1081 (by decide +kernel) rfl
set_option maxRecDepth 20000 in
theorem kw_1032 : (Jvm.Cond.code ({ cls := "ManyHandsModel", name := "nextReady", desc := "(I)I" } : Jvm.MethodName) prog_9_method_37_code (5 : Nat) (Option.some Jvm.ClassFile.FieldType.int)) ∈ gtb := gtb_mem 1082 (by exact rfl) rfl
theorem kw_1033 : (Jvm.Cond.methodLink "ManyHandsModel" (165 : Nat) ({ cls := "ManyHandsModel", name := "isAfter", desc := "(II)Z" } : Jvm.MethodName)) ∈ gtb := gtb_mem 1083 (by decide +kernel) rfl
theorem kw_1035 : (Jvm.Cond.instanceMethod ({ cls := "ManyHandsModel", name := "isAfter", desc := "(II)Z" } : Jvm.MethodName)) ∈ gtb := gtb_mem 1085 (by decide +kernel) rfl
set_option maxRecDepth 20000 in
theorem kw_1036 : (Jvm.Cond.code ({ cls := "ManyHandsModel", name := "isAfter", desc := "(II)Z" } : Jvm.MethodName) prog_9_method_20_code (3 : Nat) (Option.some Jvm.ClassFile.FieldType.boolean)) ∈ gtb := gtb_mem 1086 (by exact rfl) rfl
theorem kw_1037 : (Jvm.Cond.methodLink "ManyHandsLaw" (81 : Nat) ({ cls := "ManyHandsModel", name := "meet", desc := "(III)I" } : Jvm.MethodName)) ∈ gtb := gtb_mem 1087 (by decide +kernel) rfl
theorem kw_1038 : (Jvm.Cond.instanceMethod ({ cls := "ManyHandsModel", name := "meet", desc := "(III)I" } : Jvm.MethodName)) ∈ gtb := gtb_mem 1088 (by decide +kernel) rfl
theorem kw_1039 : (Jvm.Cond.selects "ManyHandsModel" ({ cls := "ManyHandsModel", name := "meet", desc := "(III)I" } : Jvm.MethodName) ({ cls := "ManyHandsModel", name := "meet", desc := "(III)I" } : Jvm.MethodName)) ∈ gtb := gtb_mem 1089 (by decide +kernel) rfl
set_option maxRecDepth 20000 in
theorem kw_1040 : (Jvm.Cond.code ({ cls := "ManyHandsModel", name := "meet", desc := "(III)I" } : Jvm.MethodName) prog_9_method_40_code (9 : Nat) (Option.some Jvm.ClassFile.FieldType.int)) ∈ gtb := gtb_mem 1090 (by exact rfl) rfl
theorem kw_1041 : (Jvm.Cond.methodLink "ManyHandsModel" (178 : Nat) ({ cls := "ManyHandsModel", name := "come", desc := "(II)I" } : Jvm.MethodName)) ∈ gtb := gtb_mem 1091 (by decide +kernel) rfl
theorem kw_1042 : (Jvm.Cond.methodLink "ManyHandsLaw" (85 : Nat) ({ cls := "ManyHandsModel", name := "lose", desc := "(I)I" } : Jvm.MethodName)) ∈ gtb := gtb_mem 1092 (by decide +kernel) rfl
theorem kw_1043 : (Jvm.Cond.instanceMethod ({ cls := "ManyHandsModel", name := "lose", desc := "(I)I" } : Jvm.MethodName)) ∈ gtb := gtb_mem 1093 (by decide +kernel) rfl
theorem kw_1044 : (Jvm.Cond.selects "ManyHandsModel" ({ cls := "ManyHandsModel", name := "lose", desc := "(I)I" } : Jvm.MethodName) ({ cls := "ManyHandsModel", name := "lose", desc := "(I)I" } : Jvm.MethodName)) ∈ gtb := gtb_mem 1094 (by decide +kernel) rfl
set_option maxRecDepth 20000 in
theorem kw_1045 : (Jvm.Cond.code ({ cls := "ManyHandsModel", name := "lose", desc := "(I)I" } : Jvm.MethodName) prog_9_method_41_code (4 : Nat) (Option.some Jvm.ClassFile.FieldType.int)) ∈ gtb := gtb_mem 1095 (by exact rfl) rfl
theorem kw_1046 : (Jvm.Cond.methodLink "ManyHandsModel" (181 : Nat) ({ cls := "ManyHandsModel", name := "clear", desc := "([JI)V" } : Jvm.MethodName)) ∈ gtb := gtb_mem 1096 (by decide +kernel) rfl
theorem kw_1047 : (Jvm.Cond.static ({ cls := "ManyHandsModel", name := "clear", desc := "([JI)V" } : Jvm.MethodName)) ∈ gtb := gtb_mem 1097 (by decide +kernel) rfl
set_option maxRecDepth 20000 in
theorem kw_1048 : (Jvm.Cond.code ({ cls := "ManyHandsModel", name := "clear", desc := "([JI)V" } : Jvm.MethodName) prog_9_method_9_code (3 : Nat) (Option.none : Option Jvm.ClassFile.FieldType)) ∈ gtb := gtb_mem 1098 (by exact rfl) rfl
theorem kw_1049 : (Jvm.Cond.methodLink "ManyHandsLaw" (89 : Nat) ({ cls := "ManyHandsModel", name := "told", desc := "(II)I" } : Jvm.MethodName)) ∈ gtb := gtb_mem 1099 (by decide +kernel) rfl
theorem kw_1050 : (Jvm.Cond.instanceMethod ({ cls := "ManyHandsModel", name := "told", desc := "(II)I" } : Jvm.MethodName)) ∈ gtb := gtb_mem 1100 (by decide +kernel) rfl
theorem kw_1051 : (Jvm.Cond.selects "ManyHandsModel" ({ cls := "ManyHandsModel", name := "told", desc := "(II)I" } : Jvm.MethodName) ({ cls := "ManyHandsModel", name := "told", desc := "(II)I" } : Jvm.MethodName)) ∈ gtb := gtb_mem 1101 (by decide +kernel) rfl
set_option maxRecDepth 20000 in
theorem kw_1052 : (Jvm.Cond.code ({ cls := "ManyHandsModel", name := "told", desc := "(II)I" } : Jvm.MethodName) prog_9_method_42_code (3 : Nat) (Option.some Jvm.ClassFile.FieldType.int)) ∈ gtb := gtb_mem 1102 (by exact rfl) rfl
theorem kw_1053 : (Jvm.Cond.methodLink "ManyHandsLaw" (93 : Nat) ({ cls := "ManyHandsModel", name := "has", desc := "(II)I" } : Jvm.MethodName)) ∈ gtb := gtb_mem 1103 (by decide +kernel) rfl
theorem kw_1054 : (Jvm.Cond.instanceMethod ({ cls := "ManyHandsModel", name := "has", desc := "(II)I" } : Jvm.MethodName)) ∈ gtb := gtb_mem 1104 (by decide +kernel) rfl
theorem kw_1055 : (Jvm.Cond.selects "ManyHandsModel" ({ cls := "ManyHandsModel", name := "has", desc := "(II)I" } : Jvm.MethodName) ({ cls := "ManyHandsModel", name := "has", desc := "(II)I" } : Jvm.MethodName)) ∈ gtb := gtb_mem 1105 (by decide +kernel) rfl
set_option maxRecDepth 20000 in
theorem kw_1056 : (Jvm.Cond.code ({ cls := "ManyHandsModel", name := "has", desc := "(II)I" } : Jvm.MethodName) prog_9_method_43_code (3 : Nat) (Option.some Jvm.ClassFile.FieldType.int)) ∈ gtb := gtb_mem 1106 (by exact rfl) rfl
theorem kw_1057 : (Jvm.Cond.methodLink "ManyHandsLaw" (97 : Nat) ({ cls := "ManyHandsModel", name := "compare", desc := "(II)I" } : Jvm.MethodName)) ∈ gtb := gtb_mem 1107 (by decide +kernel) rfl
theorem kw_1058 : (Jvm.Cond.instanceMethod ({ cls := "ManyHandsModel", name := "compare", desc := "(II)I" } : Jvm.MethodName)) ∈ gtb := gtb_mem 1108 (by decide +kernel) rfl
theorem kw_1059 : (Jvm.Cond.selects "ManyHandsModel" ({ cls := "ManyHandsModel", name := "compare", desc := "(II)I" } : Jvm.MethodName) ({ cls := "ManyHandsModel", name := "compare", desc := "(II)I" } : Jvm.MethodName)) ∈ gtb := gtb_mem 1109 (by decide +kernel) rfl
set_option maxRecDepth 20000 in
theorem kw_1060 : (Jvm.Cond.code ({ cls := "ManyHandsModel", name := "compare", desc := "(II)I" } : Jvm.MethodName) prog_9_method_44_code (5 : Nat) (Option.some Jvm.ClassFile.FieldType.int)) ∈ gtb := gtb_mem 1110 (by exact rfl) rfl
theorem kw_1061 : (Jvm.Cond.methodLink "ManyHandsLaw" (101 : Nat) ({ cls := "ManyHandsModel", name := "value", desc := "(II)I" } : Jvm.MethodName)) ∈ gtb := gtb_mem 1111 (by decide +kernel) rfl
theorem kw_1062 : (Jvm.Cond.instanceMethod ({ cls := "ManyHandsModel", name := "value", desc := "(II)I" } : Jvm.MethodName)) ∈ gtb := gtb_mem 1112 (by decide +kernel) rfl
theorem kw_1063 : (Jvm.Cond.selects "ManyHandsModel" ({ cls := "ManyHandsModel", name := "value", desc := "(II)I" } : Jvm.MethodName) ({ cls := "ManyHandsModel", name := "value", desc := "(II)I" } : Jvm.MethodName)) ∈ gtb := gtb_mem 1113 (by decide +kernel) rfl
set_option maxRecDepth 20000 in
theorem kw_1064 : (Jvm.Cond.code ({ cls := "ManyHandsModel", name := "value", desc := "(II)I" } : Jvm.MethodName) prog_9_method_56_code (5 : Nat) (Option.some Jvm.ClassFile.FieldType.int)) ∈ gtb := gtb_mem 1114 (by exact rfl) rfl
theorem kw_1065 : (Jvm.Cond.methodLink "ManyHandsModel" (198 : Nat) ({ cls := "ManyHandsModel", name := "need", desc := "(ZIII)I" } : Jvm.MethodName)) ∈ gtb := gtb_mem 1115 (by decide +kernel) rfl
theorem kw_1067 : (Jvm.Cond.instanceMethod ({ cls := "ManyHandsModel", name := "need", desc := "(ZIII)I" } : Jvm.MethodName)) ∈ gtb := gtb_mem 1117 (by decide +kernel) rfl
set_option maxRecDepth 20000 in
theorem kw_1068 : (Jvm.Cond.code ({ cls := "ManyHandsModel", name := "need", desc := "(ZIII)I" } : Jvm.MethodName) prog_9_method_55_code (5 : Nat) (Option.some Jvm.ClassFile.FieldType.int)) ∈ gtb := gtb_mem 1118 (by exact rfl) rfl
theorem kw_1069 : (Jvm.Cond.methodLink "ManyHandsModel" (201 : Nat) ({ cls := "ManyHandsModel", name := "telling", desc := "(II)I" } : Jvm.MethodName)) ∈ gtb := gtb_mem 1119 (by decide +kernel) rfl
theorem kw_1071 : (Jvm.Cond.instanceMethod ({ cls := "ManyHandsModel", name := "telling", desc := "(II)I" } : Jvm.MethodName)) ∈ gtb := gtb_mem 1121 (by decide +kernel) rfl
set_option maxRecDepth 20000 in
theorem kw_1072 : (Jvm.Cond.code ({ cls := "ManyHandsModel", name := "telling", desc := "(II)I" } : Jvm.MethodName) prog_9_method_46_code (6 : Nat) (Option.some Jvm.ClassFile.FieldType.int)) ∈ gtb := gtb_mem 1122 (by exact rfl) rfl
theorem kw_1073 : (Jvm.Cond.methodLink "ManyHandsLaw" (105 : Nat) ({ cls := "ManyHandsModel", name := "sum", desc := "(II)I" } : Jvm.MethodName)) ∈ gtb := gtb_mem 1123 (by decide +kernel) rfl
theorem kw_1074 : (Jvm.Cond.instanceMethod ({ cls := "ManyHandsModel", name := "sum", desc := "(II)I" } : Jvm.MethodName)) ∈ gtb := gtb_mem 1124 (by decide +kernel) rfl
theorem kw_1075 : (Jvm.Cond.selects "ManyHandsModel" ({ cls := "ManyHandsModel", name := "sum", desc := "(II)I" } : Jvm.MethodName) ({ cls := "ManyHandsModel", name := "sum", desc := "(II)I" } : Jvm.MethodName)) ∈ gtb := gtb_mem 1125 (by decide +kernel) rfl
set_option maxRecDepth 20000 in
theorem kw_1076 : (Jvm.Cond.code ({ cls := "ManyHandsModel", name := "sum", desc := "(II)I" } : Jvm.MethodName) prog_9_method_57_code (4 : Nat) (Option.some Jvm.ClassFile.FieldType.int)) ∈ gtb := gtb_mem 1126 (by exact rfl) rfl
theorem kw_1077 : (Jvm.Cond.methodLink "ManyHandsModel" (208 : Nat) ({ cls := "ManyHandsModel", name := "sumOf", desc := "(II)J" } : Jvm.MethodName)) ∈ gtb := gtb_mem 1127 (by decide +kernel) rfl
theorem kw_1079 : (Jvm.Cond.instanceMethod ({ cls := "ManyHandsModel", name := "sumOf", desc := "(II)J" } : Jvm.MethodName)) ∈ gtb := gtb_mem 1129 (by decide +kernel) rfl
set_option maxRecDepth 20000 in
theorem kw_1080 : (Jvm.Cond.code ({ cls := "ManyHandsModel", name := "sumOf", desc := "(II)J" } : Jvm.MethodName) prog_9_method_49_code (6 : Nat) (Option.some Jvm.ClassFile.FieldType.long)) ∈ gtb := gtb_mem 1130 (by exact rfl) rfl
theorem kw_1081 : (Jvm.Cond.methodLink "ManyHandsModel" (212 : Nat) ({ cls := "ManyHandsModel", name := "manyOn", desc := "(II)I" } : Jvm.MethodName)) ∈ gtb := gtb_mem 1131 (by decide +kernel) rfl
theorem kw_1083 : (Jvm.Cond.instanceMethod ({ cls := "ManyHandsModel", name := "manyOn", desc := "(II)I" } : Jvm.MethodName)) ∈ gtb := gtb_mem 1133 (by decide +kernel) rfl
set_option maxRecDepth 20000 in
theorem kw_1084 : (Jvm.Cond.code ({ cls := "ManyHandsModel", name := "manyOn", desc := "(II)I" } : Jvm.MethodName) prog_9_method_47_code (5 : Nat) (Option.some Jvm.ClassFile.FieldType.int)) ∈ gtb := gtb_mem 1134 (by exact rfl) rfl
theorem kw_1085 : (Jvm.Cond.methodLink "ManyHandsLaw" (109 : Nat) ({ cls := "ManyHandsModel", name := "mean", desc := "(II)I" } : Jvm.MethodName)) ∈ gtb := gtb_mem 1135 (by decide +kernel) rfl
theorem kw_1086 : (Jvm.Cond.instanceMethod ({ cls := "ManyHandsModel", name := "mean", desc := "(II)I" } : Jvm.MethodName)) ∈ gtb := gtb_mem 1136 (by decide +kernel) rfl
theorem kw_1087 : (Jvm.Cond.selects "ManyHandsModel" ({ cls := "ManyHandsModel", name := "mean", desc := "(II)I" } : Jvm.MethodName) ({ cls := "ManyHandsModel", name := "mean", desc := "(II)I" } : Jvm.MethodName)) ∈ gtb := gtb_mem 1137 (by decide +kernel) rfl
set_option maxRecDepth 20000 in
theorem kw_1088 : (Jvm.Cond.code ({ cls := "ManyHandsModel", name := "mean", desc := "(II)I" } : Jvm.MethodName) prog_9_method_58_code (5 : Nat) (Option.some Jvm.ClassFile.FieldType.int)) ∈ gtb := gtb_mem 1138 (by exact rfl) rfl
theorem kw_1089 : (Jvm.Cond.methodLink "ManyHandsLaw" (113 : Nat) ({ cls := "ManyHandsModel", name := "often", desc := "(III)I" } : Jvm.MethodName)) ∈ gtb := gtb_mem 1139 (by decide +kernel) rfl
theorem kw_1090 : (Jvm.Cond.instanceMethod ({ cls := "ManyHandsModel", name := "often", desc := "(III)I" } : Jvm.MethodName)) ∈ gtb := gtb_mem 1140 (by decide +kernel) rfl
theorem kw_1091 : (Jvm.Cond.selects "ManyHandsModel" ({ cls := "ManyHandsModel", name := "often", desc := "(III)I" } : Jvm.MethodName) ({ cls := "ManyHandsModel", name := "often", desc := "(III)I" } : Jvm.MethodName)) ∈ gtb := gtb_mem 1141 (by decide +kernel) rfl
set_option maxRecDepth 20000 in
theorem kw_1092 : (Jvm.Cond.code ({ cls := "ManyHandsModel", name := "often", desc := "(III)I" } : Jvm.MethodName) prog_9_method_59_code (5 : Nat) (Option.some Jvm.ClassFile.FieldType.int)) ∈ gtb := gtb_mem 1142 (by exact rfl) rfl
theorem kw_1093 : (Jvm.Cond.methodLink "ManyHandsLaw" (117 : Nat) ({ cls := "ManyHandsModel", name := "inside", desc := "(III)I" } : Jvm.MethodName)) ∈ gtb := gtb_mem 1143 (by decide +kernel) rfl
theorem kw_1094 : (Jvm.Cond.instanceMethod ({ cls := "ManyHandsModel", name := "inside", desc := "(III)I" } : Jvm.MethodName)) ∈ gtb := gtb_mem 1144 (by decide +kernel) rfl
theorem kw_1095 : (Jvm.Cond.selects "ManyHandsModel" ({ cls := "ManyHandsModel", name := "inside", desc := "(III)I" } : Jvm.MethodName) ({ cls := "ManyHandsModel", name := "inside", desc := "(III)I" } : Jvm.MethodName)) ∈ gtb := gtb_mem 1145 (by decide +kernel) rfl
set_option maxRecDepth 20000 in
theorem kw_1096 : (Jvm.Cond.code ({ cls := "ManyHandsModel", name := "inside", desc := "(III)I" } : Jvm.MethodName) prog_9_method_60_code (7 : Nat) (Option.some Jvm.ClassFile.FieldType.int)) ∈ gtb := gtb_mem 1146 (by exact rfl) rfl
theorem kw_1097 : (Jvm.Cond.methodLink "ManyHandsLaw" (121 : Nat) ({ cls := "ManyHandsModel", name := "heads", desc := "(II)I" } : Jvm.MethodName)) ∈ gtb := gtb_mem 1147 (by decide +kernel) rfl
theorem kw_1098 : (Jvm.Cond.instanceMethod ({ cls := "ManyHandsModel", name := "heads", desc := "(II)I" } : Jvm.MethodName)) ∈ gtb := gtb_mem 1148 (by decide +kernel) rfl
theorem kw_1099 : (Jvm.Cond.selects "ManyHandsModel" ({ cls := "ManyHandsModel", name := "heads", desc := "(II)I" } : Jvm.MethodName) ({ cls := "ManyHandsModel", name := "heads", desc := "(II)I" } : Jvm.MethodName)) ∈ gtb := gtb_mem 1149 (by decide +kernel) rfl
set_option maxRecDepth 20000 in
theorem kw_1100 : (Jvm.Cond.code ({ cls := "ManyHandsModel", name := "heads", desc := "(II)I" } : Jvm.MethodName) prog_9_method_61_code (4 : Nat) (Option.some Jvm.ClassFile.FieldType.int)) ∈ gtb := gtb_mem 1150 (by exact rfl) rfl
theorem kw_1101 : (Jvm.Cond.methodLink "ManyHandsModel" (215 : Nat) ({ cls := "ManyHandsModel", name := "layHeads", desc := "(II)V" } : Jvm.MethodName)) ∈ gtb := gtb_mem 1151 (by decide +kernel) rfl
theorem kw_1103 : (Jvm.Cond.instanceMethod ({ cls := "ManyHandsModel", name := "layHeads", desc := "(II)V" } : Jvm.MethodName)) ∈ gtb := gtb_mem 1153 (by decide +kernel) rfl
set_option maxRecDepth 20000 in
theorem kw_1104 : (Jvm.Cond.code ({ cls := "ManyHandsModel", name := "layHeads", desc := "(II)V" } : Jvm.MethodName) prog_9_method_51_code (5 : Nat) (Option.none : Option Jvm.ClassFile.FieldType)) ∈ gtb := gtb_mem 1154 (by exact rfl) rfl
theorem kw_1105 : (Jvm.Cond.methodLink "ManyHandsModel" (192 : Nat) ({ cls := "ManyHandsModel", name := "isKnown", desc := "(IIII)Z" } : Jvm.MethodName)) ∈ gtb := gtb_mem 1155 (by decide +kernel) rfl
theorem kw_1107 : (Jvm.Cond.instanceMethod ({ cls := "ManyHandsModel", name := "isKnown", desc := "(IIII)Z" } : Jvm.MethodName)) ∈ gtb := gtb_mem 1157 (by decide +kernel) rfl
set_option maxRecDepth 20000 in
theorem kw_1108 : (Jvm.Cond.code ({ cls := "ManyHandsModel", name := "isKnown", desc := "(IIII)Z" } : Jvm.MethodName) prog_9_method_50_code (7 : Nat) (Option.some Jvm.ClassFile.FieldType.boolean)) ∈ gtb := gtb_mem 1158 (by exact rfl) rfl
theorem kw_1109 : (Jvm.Cond.methodLink "ManyHandsLaw" (125 : Nat) ({ cls := "ManyHandsModel", name := "head", desc := "(III)I" } : Jvm.MethodName)) ∈ gtb := gtb_mem 1159 (by decide +kernel) rfl
theorem kw_1110 : (Jvm.Cond.instanceMethod ({ cls := "ManyHandsModel", name := "head", desc := "(III)I" } : Jvm.MethodName)) ∈ gtb := gtb_mem 1160 (by decide +kernel) rfl
theorem kw_1111 : (Jvm.Cond.selects "ManyHandsModel" ({ cls := "ManyHandsModel", name := "head", desc := "(III)I" } : Jvm.MethodName) ({ cls := "ManyHandsModel", name := "head", desc := "(III)I" } : Jvm.MethodName)) ∈ gtb := gtb_mem 1161 (by decide +kernel) rfl
set_option maxRecDepth 20000 in
theorem kw_1112 : (Jvm.Cond.code ({ cls := "ManyHandsModel", name := "head", desc := "(III)I" } : Jvm.MethodName) prog_9_method_62_code (5 : Nat) (Option.some Jvm.ClassFile.FieldType.int)) ∈ gtb := gtb_mem 1162 (by exact rfl) rfl
theorem kw_1113 : (Jvm.Cond.methodLink "ManyHandsLaw" (129 : Nat) ({ cls := "ManyHandsModel", name := "rights", desc := "(III)I" } : Jvm.MethodName)) ∈ gtb := gtb_mem 1163 (by decide +kernel) rfl
theorem kw_1114 : (Jvm.Cond.instanceMethod ({ cls := "ManyHandsModel", name := "rights", desc := "(III)I" } : Jvm.MethodName)) ∈ gtb := gtb_mem 1164 (by decide +kernel) rfl
theorem kw_1115 : (Jvm.Cond.selects "ManyHandsModel" ({ cls := "ManyHandsModel", name := "rights", desc := "(III)I" } : Jvm.MethodName) ({ cls := "ManyHandsModel", name := "rights", desc := "(III)I" } : Jvm.MethodName)) ∈ gtb := gtb_mem 1165 (by decide +kernel) rfl
set_option maxRecDepth 20000 in
theorem kw_1116 : (Jvm.Cond.code ({ cls := "ManyHandsModel", name := "rights", desc := "(III)I" } : Jvm.MethodName) prog_9_method_63_code (5 : Nat) (Option.some Jvm.ClassFile.FieldType.int)) ∈ gtb := gtb_mem 1166 (by exact rfl) rfl
theorem kw_1117 : (Jvm.Cond.methodLink "ManyHandsLaw" (133 : Nat) ({ cls := "ManyHandsModel", name := "up", desc := "(II)I" } : Jvm.MethodName)) ∈ gtb := gtb_mem 1167 (by decide +kernel) rfl
theorem kw_1118 : (Jvm.Cond.instanceMethod ({ cls := "ManyHandsModel", name := "up", desc := "(II)I" } : Jvm.MethodName)) ∈ gtb := gtb_mem 1168 (by decide +kernel) rfl
theorem kw_1119 : (Jvm.Cond.selects "ManyHandsModel" ({ cls := "ManyHandsModel", name := "up", desc := "(II)I" } : Jvm.MethodName) ({ cls := "ManyHandsModel", name := "up", desc := "(II)I" } : Jvm.MethodName)) ∈ gtb := gtb_mem 1169 (by decide +kernel) rfl
set_option maxRecDepth 20000 in
theorem kw_1120 : (Jvm.Cond.code ({ cls := "ManyHandsModel", name := "up", desc := "(II)I" } : Jvm.MethodName) prog_9_method_64_code (4 : Nat) (Option.some Jvm.ClassFile.FieldType.int)) ∈ gtb := gtb_mem 1170 (by exact rfl) rfl
theorem kw_1121 : (Jvm.Cond.methodLink "ManyHandsModel" (219 : Nat) ({ cls := "ManyHandsModel", name := "isUp", desc := "(II)Z" } : Jvm.MethodName)) ∈ gtb := gtb_mem 1171 (by decide +kernel) rfl
theorem kw_1123 : (Jvm.Cond.instanceMethod ({ cls := "ManyHandsModel", name := "isUp", desc := "(II)Z" } : Jvm.MethodName)) ∈ gtb := gtb_mem 1173 (by decide +kernel) rfl
set_option maxRecDepth 20000 in
theorem kw_1124 : (Jvm.Cond.code ({ cls := "ManyHandsModel", name := "isUp", desc := "(II)Z" } : Jvm.MethodName) prog_9_method_53_code (7 : Nat) (Option.some Jvm.ClassFile.FieldType.boolean)) ∈ gtb := gtb_mem 1174 (by exact rfl) rfl
theorem kw_1125 : (Jvm.Cond.methodLink "ManyHandsModel" (195 : Nat) ({ cls := "ManyHandsModel", name := "manyDo", desc := "(III)I" } : Jvm.MethodName)) ∈ gtb := gtb_mem 1175 (by decide +kernel) rfl
theorem kw_1127 : (Jvm.Cond.instanceMethod ({ cls := "ManyHandsModel", name := "manyDo", desc := "(III)I" } : Jvm.MethodName)) ∈ gtb := gtb_mem 1177 (by decide +kernel) rfl
set_option maxRecDepth 20000 in
theorem kw_1128 : (Jvm.Cond.code ({ cls := "ManyHandsModel", name := "manyDo", desc := "(III)I" } : Jvm.MethodName) prog_9_method_52_code (6 : Nat) (Option.some Jvm.ClassFile.FieldType.int)) ∈ gtb := gtb_mem 1178 (by exact rfl) rfl
theorem kw_1129 : (Jvm.Cond.methodLink "ManyHandsLaw" (137 : Nat) ({ cls := "ManyHandsModel", name := "alike", desc := "(III)I" } : Jvm.MethodName)) ∈ gtb := gtb_mem 1179 (by decide +kernel) rfl
theorem kw_1130 : (Jvm.Cond.instanceMethod ({ cls := "ManyHandsModel", name := "alike", desc := "(III)I" } : Jvm.MethodName)) ∈ gtb := gtb_mem 1180 (by decide +kernel) rfl
theorem kw_1131 : (Jvm.Cond.selects "ManyHandsModel" ({ cls := "ManyHandsModel", name := "alike", desc := "(III)I" } : Jvm.MethodName) ({ cls := "ManyHandsModel", name := "alike", desc := "(III)I" } : Jvm.MethodName)) ∈ gtb := gtb_mem 1181 (by decide +kernel) rfl
set_option maxRecDepth 20000 in
theorem kw_1132 : (Jvm.Cond.code ({ cls := "ManyHandsModel", name := "alike", desc := "(III)I" } : Jvm.MethodName) prog_9_method_66_code (8 : Nat) (Option.some Jvm.ClassFile.FieldType.int)) ∈ gtb := gtb_mem 1182 (by exact rfl) rfl
theorem kw_1133 : (Jvm.Cond.methodLink "ManyHandsModel" (222 : Nat) ({ cls := "ManyHandsModel", name := "lay", desc := "(II[J)I" } : Jvm.MethodName)) ∈ gtb := gtb_mem 1183 (by decide +kernel) rfl
theorem kw_1135 : (Jvm.Cond.instanceMethod ({ cls := "ManyHandsModel", name := "lay", desc := "(II[J)I" } : Jvm.MethodName)) ∈ gtb := gtb_mem 1185 (by decide +kernel) rfl
set_option maxRecDepth 20000 in
theorem kw_1136 : (Jvm.Cond.code ({ cls := "ManyHandsModel", name := "lay", desc := "(II[J)I" } : Jvm.MethodName) prog_9_method_65_code (6 : Nat) (Option.some Jvm.ClassFile.FieldType.int)) ∈ gtb := gtb_mem 1186 (by exact rfl) rfl
theorem kw_1137 : (Jvm.Cond.methodLink "ManyHandsLaw" (141 : Nat) ({ cls := "ManyHandsModel", name := "leaves", desc := "(II)I" } : Jvm.MethodName)) ∈ gtb := gtb_mem 1187 (by decide +kernel) rfl
theorem kw_1138 : (Jvm.Cond.instanceMethod ({ cls := "ManyHandsModel", name := "leaves", desc := "(II)I" } : Jvm.MethodName)) ∈ gtb := gtb_mem 1188 (by decide +kernel) rfl
theorem kw_1139 : (Jvm.Cond.selects "ManyHandsModel" ({ cls := "ManyHandsModel", name := "leaves", desc := "(II)I" } : Jvm.MethodName) ({ cls := "ManyHandsModel", name := "leaves", desc := "(II)I" } : Jvm.MethodName)) ∈ gtb := gtb_mem 1189 (by decide +kernel) rfl
set_option maxRecDepth 20000 in
theorem kw_1140 : (Jvm.Cond.code ({ cls := "ManyHandsModel", name := "leaves", desc := "(II)I" } : Jvm.MethodName) prog_9_method_67_code (4 : Nat) (Option.some Jvm.ClassFile.FieldType.int)) ∈ gtb := gtb_mem 1190 (by exact rfl) rfl
theorem kw_1141 : (Jvm.Cond.methodLink "ManyHandsLaw" (145 : Nat) ({ cls := "ManyHandsModel", name := "save", desc := "(II)I" } : Jvm.MethodName)) ∈ gtb := gtb_mem 1191 (by decide +kernel) rfl
theorem kw_1142 : (Jvm.Cond.instanceMethod ({ cls := "ManyHandsModel", name := "save", desc := "(II)I" } : Jvm.MethodName)) ∈ gtb := gtb_mem 1192 (by decide +kernel) rfl
theorem kw_1143 : (Jvm.Cond.selects "ManyHandsModel" ({ cls := "ManyHandsModel", name := "save", desc := "(II)I" } : Jvm.MethodName) ({ cls := "ManyHandsModel", name := "save", desc := "(II)I" } : Jvm.MethodName)) ∈ gtb := gtb_mem 1193 (by decide +kernel) rfl
set_option maxRecDepth 20000 in
theorem kw_1144 : (Jvm.Cond.code ({ cls := "ManyHandsModel", name := "save", desc := "(II)I" } : Jvm.MethodName) prog_9_method_68_code (3 : Nat) (Option.some Jvm.ClassFile.FieldType.int)) ∈ gtb := gtb_mem 1194 (by exact rfl) rfl
theorem kw_1145 : (Jvm.Cond.methodLink "ManyHandsLaw" (149 : Nat) ({ cls := "ManyHandsModel", name := "tear", desc := "(II)I" } : Jvm.MethodName)) ∈ gtb := gtb_mem 1195 (by decide +kernel) rfl
theorem kw_1146 : (Jvm.Cond.instanceMethod ({ cls := "ManyHandsModel", name := "tear", desc := "(II)I" } : Jvm.MethodName)) ∈ gtb := gtb_mem 1196 (by decide +kernel) rfl
theorem kw_1147 : (Jvm.Cond.selects "ManyHandsModel" ({ cls := "ManyHandsModel", name := "tear", desc := "(II)I" } : Jvm.MethodName) ({ cls := "ManyHandsModel", name := "tear", desc := "(II)I" } : Jvm.MethodName)) ∈ gtb := gtb_mem 1197 (by decide +kernel) rfl
set_option maxRecDepth 20000 in
theorem kw_1148 : (Jvm.Cond.code ({ cls := "ManyHandsModel", name := "tear", desc := "(II)I" } : Jvm.MethodName) prog_9_method_70_code (4 : Nat) (Option.some Jvm.ClassFile.FieldType.int)) ∈ gtb := gtb_mem 1198 (by exact rfl) rfl
theorem kw_1149 : (Jvm.Cond.methodLink "ManyHandsModel" (226 : Nat) ({ cls := "ManyHandsModel", name := "lacksLeaf", desc := "(II)I" } : Jvm.MethodName)) ∈ gtb := gtb_mem 1199 (by decide +kernel) rfl
theorem kw_1151 : (Jvm.Cond.instanceMethod ({ cls := "ManyHandsModel", name := "lacksLeaf", desc := "(II)I" } : Jvm.MethodName)) ∈ gtb := gtb_mem 1201 (by decide +kernel) rfl
set_option maxRecDepth 20000 in
theorem kw_1152 : (Jvm.Cond.code ({ cls := "ManyHandsModel", name := "lacksLeaf", desc := "(II)I" } : Jvm.MethodName) prog_9_method_69_code (3 : Nat) (Option.some Jvm.ClassFile.FieldType.int)) ∈ gtb := gtb_mem 1202 (by exact rfl) rfl
theorem kw_1153 : (Jvm.Cond.methodLink "ManyHandsLaw" (153 : Nat) ({ cls := "ManyHandsModel", name := "leaf", desc := "(II)I" } : Jvm.MethodName)) ∈ gtb := gtb_mem 1203 (by decide +kernel) rfl
theorem kw_1154 : (Jvm.Cond.instanceMethod ({ cls := "ManyHandsModel", name := "leaf", desc := "(II)I" } : Jvm.MethodName)) ∈ gtb := gtb_mem 1204 (by decide +kernel) rfl
theorem kw_1155 : (Jvm.Cond.selects "ManyHandsModel" ({ cls := "ManyHandsModel", name := "leaf", desc := "(II)I" } : Jvm.MethodName) ({ cls := "ManyHandsModel", name := "leaf", desc := "(II)I" } : Jvm.MethodName)) ∈ gtb := gtb_mem 1205 (by decide +kernel) rfl
set_option maxRecDepth 20000 in
theorem kw_1156 : (Jvm.Cond.code ({ cls := "ManyHandsModel", name := "leaf", desc := "(II)I" } : Jvm.MethodName) prog_9_method_71_code (4 : Nat) (Option.some Jvm.ClassFile.FieldType.int)) ∈ gtb := gtb_mem 1206 (by exact rfl) rfl
theorem kw_1157 : (Jvm.Cond.methodLink "ManyHandsLaw" (158 : Nat) ({ cls := "ManyHandsModel", name := "copy", desc := "(IIIII)I" } : Jvm.MethodName)) ∈ gtb := gtb_mem 1207 (by decide +kernel) rfl
theorem kw_1158 : (Jvm.Cond.instanceMethod ({ cls := "ManyHandsModel", name := "copy", desc := "(IIIII)I" } : Jvm.MethodName)) ∈ gtb := gtb_mem 1208 (by decide +kernel) rfl
theorem kw_1159 : (Jvm.Cond.selects "ManyHandsModel" ({ cls := "ManyHandsModel", name := "copy", desc := "(IIIII)I" } : Jvm.MethodName) ({ cls := "ManyHandsModel", name := "copy", desc := "(IIIII)I" } : Jvm.MethodName)) ∈ gtb := gtb_mem 1209 (by decide +kernel) rfl
set_option maxRecDepth 20000 in
theorem kw_1160 : (Jvm.Cond.code ({ cls := "ManyHandsModel", name := "copy", desc := "(IIIII)I" } : Jvm.MethodName) prog_9_method_72_code (7 : Nat) (Option.some Jvm.ClassFile.FieldType.int)) ∈ gtb := gtb_mem 1210 (by exact rfl) rfl
theorem kw_1161 : (Jvm.Cond.methodLink "ManyHandsLaw" (163 : Nat) ({ cls := "ManyHandsModel", name := "asked", desc := "()J" } : Jvm.MethodName)) ∈ gtb := gtb_mem 1211 (by decide +kernel) rfl
theorem kw_1162 : (Jvm.Cond.instanceMethod ({ cls := "ManyHandsModel", name := "asked", desc := "()J" } : Jvm.MethodName)) ∈ gtb := gtb_mem 1212 (by decide +kernel) rfl
theorem kw_1163 : (Jvm.Cond.selects "ManyHandsModel" ({ cls := "ManyHandsModel", name := "asked", desc := "()J" } : Jvm.MethodName) ({ cls := "ManyHandsModel", name := "asked", desc := "()J" } : Jvm.MethodName)) ∈ gtb := gtb_mem 1213 (by decide +kernel) rfl
set_option maxRecDepth 20000 in
theorem kw_1164 : (Jvm.Cond.code ({ cls := "ManyHandsModel", name := "asked", desc := "()J" } : Jvm.MethodName) prog_9_method_73_code (1 : Nat) (Option.some Jvm.ClassFile.FieldType.long)) ∈ gtb := gtb_mem 1214 (by exact rfl) rfl
theorem kw_1165 : (Jvm.Cond.methodLink "ManyHandsLaw" (167 : Nat) ({ cls := "ManyHandsModel", name := "count", desc := "(I)I" } : Jvm.MethodName)) ∈ gtb := gtb_mem 1215 (by decide +kernel) rfl
theorem kw_1166 : (Jvm.Cond.instanceMethod ({ cls := "ManyHandsModel", name := "count", desc := "(I)I" } : Jvm.MethodName)) ∈ gtb := gtb_mem 1216 (by decide +kernel) rfl
theorem kw_1167 : (Jvm.Cond.selects "ManyHandsModel" ({ cls := "ManyHandsModel", name := "count", desc := "(I)I" } : Jvm.MethodName) ({ cls := "ManyHandsModel", name := "count", desc := "(I)I" } : Jvm.MethodName)) ∈ gtb := gtb_mem 1217 (by decide +kernel) rfl
set_option maxRecDepth 20000 in
theorem kw_1168 : (Jvm.Cond.code ({ cls := "ManyHandsModel", name := "count", desc := "(I)I" } : Jvm.MethodName) prog_9_method_74_code (2 : Nat) (Option.some Jvm.ClassFile.FieldType.int)) ∈ gtb := gtb_mem 1218 (by exact rfl) rfl
theorem kw_1169 : (Jvm.Cond.methodLink "ManyHandsLaw" (180 : Nat) ({ cls := "ManyHandsModel", name := "digest", desc := "(I)J" } : Jvm.MethodName)) ∈ gtb := gtb_mem 1219 (by decide +kernel) rfl
theorem kw_1170 : (Jvm.Cond.instanceMethod ({ cls := "ManyHandsModel", name := "digest", desc := "(I)J" } : Jvm.MethodName)) ∈ gtb := gtb_mem 1220 (by decide +kernel) rfl
theorem kw_1171 : (Jvm.Cond.selects "ManyHandsModel" ({ cls := "ManyHandsModel", name := "digest", desc := "(I)J" } : Jvm.MethodName) ({ cls := "ManyHandsModel", name := "digest", desc := "(I)J" } : Jvm.MethodName)) ∈ gtb := gtb_mem 1221 (by decide +kernel) rfl
set_option maxRecDepth 20000 in
theorem kw_1172 : (Jvm.Cond.code ({ cls := "ManyHandsModel", name := "digest", desc := "(I)J" } : Jvm.MethodName) prog_9_method_75_code (7 : Nat) (Option.some Jvm.ClassFile.FieldType.long)) ∈ gtb := gtb_mem 1222 (by exact rfl) rfl
theorem kw_1173 : (Jvm.Cond.constantLong "ManyHandsModel" (229 : Nat) (17 : Int64)) ∈ gtb := gtb_mem 1223 (by decide +kernel) rfl
theorem kw_1174 : (Jvm.Cond.constantLong "ManyHandsModel" (231 : Nat) (31 : Int64)) ∈ gtb := gtb_mem 1224 (by decide +kernel) rfl
theorem kw_1175 : (Jvm.Cond.methodLink "ManyHandsModel" (233 : Nat) ({ cls := "ManyHandsModel", name := "told", desc := "(II)I" } : Jvm.MethodName)) ∈ gtb := gtb_mem 1225 (by decide +kernel) rfl
theorem kw_1176 : (Jvm.Cond.constantLong "ManyHandsLaw" (33 : Nat) (4294967295 : Int64)) ∈ gtb := gtb_mem 1226 (by decide +kernel) rfl
theorem kw_1178 : (Jvm.Cond.sameMethod "[Ljava/lang/Object;" "java/lang/Object" "getClass" "()Ljava/lang/Class;") ∈ gtb := gtb_mem 1228 (by decide +kernel) rfl
theorem kw_1179 : (Jvm.Cond.selects "[Ljava/lang/Object;" ({ cls := "java/lang/Object", name := "getClass", desc := "()Ljava/lang/Class;" } : Jvm.MethodName) ({ cls := "java/lang/Object", name := "getClass", desc := "()Ljava/lang/Class;" } : Jvm.MethodName)) ∈ gtb := gtb_mem 1229 (by decide +kernel) rfl
end
section
/-! the world of the walk: shape (kind and length by address) and data (fields by their code and address; arrays by address and place) -/
abbrev Sh : Type := (Nat → Nat) × (Nat → Nat)
abbrev Dt : Type := (Nat → Nat → Int32) × (Nat → Nat → Int64) × (Nat → Nat → Option Nat) × (Nat → Nat → Int32) × (Nat → Nat → Int64) × (Nat → Nat → Option Nat)
def dfi (d : Dt) : Nat → Nat → Int32 := d.1
def dfl (d : Dt) : Nat → Nat → Int64 := d.2.1
def dfr (d : Dt) : Nat → Nat → Option Nat := d.2.2.1
def dai (d : Dt) : Nat → Nat → Int32 := d.2.2.2.1
def dal (d : Dt) : Nat → Nat → Int64 := d.2.2.2.2.1
def dar (d : Dt) : Nat → Nat → Option Nat := d.2.2.2.2.2
def u3 {α : Type} (f : Nat → Nat → α) (k a : Nat) (v : α) : Nat → Nat → α := fun j b => if j = k ∧ b = a then v else f j b
def uI (d : Dt) (k a : Nat) (v : Int32) : Dt := (u3 d.1 k a v, d.2)
def uL (d : Dt) (k a : Nat) (v : Int64) : Dt := (d.1, u3 d.2.1 k a v, d.2.2)
def uR (d : Dt) (k a : Nat) (v : Option Nat) : Dt := (d.1, d.2.1, u3 d.2.2.1 k a v, d.2.2.2)
def uAI (d : Dt) (a i : Nat) (v : Int32) : Dt := (d.1, d.2.1, d.2.2.1, u3 d.2.2.2.1 a i v, d.2.2.2.2)
def uAL (d : Dt) (a i : Nat) (v : Int64) : Dt := (d.1, d.2.1, d.2.2.1, d.2.2.2.1, u3 d.2.2.2.2.1 a i v, d.2.2.2.2.2)
def uAR (d : Dt) (a i : Nat) (v : Option Nat) : Dt := (d.1, d.2.1, d.2.2.1, d.2.2.2.1, d.2.2.2.2.1, u3 d.2.2.2.2.2 a i v)
/-! steps that may fail -/
def bd {α β : Type} (x : Option α) (k : α → Option β) : Option β := match x with
  | none => none
  | some v => k v
def bd2 {α δ β : Type} (x : Option (α × δ)) (k : α → δ → Option β) : Option β := match x with
  | none => none
  | some q => k q.1 q.2
def on {β : Type} (r : Option Nat) (n : β) (s : Nat → β) : β := match r with
  | none => n
  | some a => s a
theorem bd_s {α β : Type} {x : Option α} {k : α → Option β} {r : β} (h : bd x k = some r) : ∃ v, x = some v ∧ k v = some r := by
  cases x with
  | none => cases h
  | some v => exact ⟨v, rfl, h⟩
theorem bd2_s {α δ β : Type} {x : Option (α × δ)} {k : α → δ → Option β} {r : β} (h : bd2 x k = some r) : ∃ v w, x = some (v, w) ∧ k v w = some r := by
  cases x with
  | none => cases h
  | some v => exact ⟨v.1, v.2, rfl, h⟩
theorem on_n {β : Type} {n : Option β} {s : Nat → Option β} {r : β} (h : on none n s = some r) : n = some r := h
theorem on_s {β : Type} {a : Nat} {n : Option β} {s : Nat → Option β} {r : β} (h : on (some a) n s = some r) : s a = some r := h
theorem if_t {β : Type} {c : Prop} [Decidable c] {a b : Option β} {r : β} (hc : c) (h : (if c then a else b) = some r) : a = some r := by rwa [if_pos hc] at h
theorem if_f {β : Type} {c : Prop} [Decidable c] {a b : Option β} {r : β} (hc : ¬ c) (h : (if c then a else b) = some r) : b = some r := by rwa [if_neg hc] at h
theorem bd_v {α β : Type} (v : α) (k : α → Option β) : bd (some v) k = k v := rfl
theorem bd_0 {α β : Type} (k : α → Option β) : bd none k = none := rfl
theorem bd2_v {α δ β : Type} (v : α) (w : δ) (k : α → δ → Option β) : bd2 (some (v, w)) k = k v w := rfl
theorem on_v {β : Type} (a : Nat) (n : β) (s : Nat → β) : on (some a) n s = s a := rfl
theorem on_0 {β : Type} (n : β) (s : Nat → β) : on none n s = n := rfl
def bI (b : Bool) : Int32 := if b then 1 else 0
/-! what an instruction reads and writes -/
def kc (sh : Sh) (kd a : Nat) : Option Unit := if sh.1 a = kd then some () else none
def gI (sh : Sh) (d : Dt) (kd k a : Nat) : Option Int32 := if sh.1 a = kd then some (dfi d k a) else none
def gL (sh : Sh) (d : Dt) (kd k a : Nat) : Option Int64 := if sh.1 a = kd then some (dfl d k a) else none
def gR (sh : Sh) (d : Dt) (kd k a : Nat) : Option (Option Nat) := if sh.1 a = kd then some (dfr d k a) else none
def pI (sh : Sh) (d : Dt) (kd k a : Nat) (v : Int32) : Option Dt := if sh.1 a = kd then some (uI d k a v) else none
def pL (sh : Sh) (d : Dt) (kd k a : Nat) (v : Int64) : Option Dt := if sh.1 a = kd then some (uL d k a v) else none
def pR (sh : Sh) (d : Dt) (kd k a : Nat) (v : Option Nat) : Option Dt := if sh.1 a = kd then some (uR d k a v) else none
def ix (sh : Sh) (kd a : Nat) (i : Int32) : Option Nat := if sh.1 a = kd then (if i < 0 then none else if sh.2 a ≤ i.toNatClampNeg then none else some i.toNatClampNeg) else none
def aI (sh : Sh) (d : Dt) (kd a : Nat) (i : Int32) : Option Int32 := bd (ix sh kd a i) fun j => some (dai d a j)
def aL (sh : Sh) (d : Dt) (kd a : Nat) (i : Int32) : Option Int64 := bd (ix sh kd a i) fun j => some (dal d a j)
def aR (sh : Sh) (d : Dt) (kd a : Nat) (i : Int32) : Option (Option Nat) := bd (ix sh kd a i) fun j => some (dar d a j)
def sI (sh : Sh) (d : Dt) (kd a : Nat) (i v : Int32) : Option Dt := bd (ix sh kd a i) fun j => some (uAI d a j v)
def sZ (sh : Sh) (d : Dt) (kd a : Nat) (i v : Int32) : Option Dt := bd (ix sh kd a i) fun j => some (uAI d a j (vp_nar .boolean v))
def sL (sh : Sh) (d : Dt) (kd a : Nat) (i : Int32) (v : Int64) : Option Dt := bd (ix sh kd a i) fun j => some (uAL d a j v)
def sR (sh : Sh) (d : Dt) (kd a : Nat) (i : Int32) (v : Option Nat) : Option Dt := bd (ix sh kd a i) fun j => some (uAR d a j v)
def lnA (sh : Sh) (kd a : Nat) : Option Int32 := if sh.1 a = kd then some (Int32.ofNat (sh.2 a)) else none
theorem kc_k {sh : Sh} {kd a : Nat} {u : Unit} (h : kc sh kd a = some u) : sh.1 a = kd := by
  unfold kc at h; split at h
  · assumption
  · cases h
theorem gI_s {sh : Sh} {d : Dt} {kd k a : Nat} {v : Int32} (h : gI sh d kd k a = some v) : sh.1 a = kd ∧ dfi d k a = v := by
  unfold gI at h; split at h
  · exact ⟨by assumption, Option.some.inj h⟩
  · cases h
theorem gL_s {sh : Sh} {d : Dt} {kd k a : Nat} {v : Int64} (h : gL sh d kd k a = some v) : sh.1 a = kd ∧ dfl d k a = v := by
  unfold gL at h; split at h
  · exact ⟨by assumption, Option.some.inj h⟩
  · cases h
theorem gR_s {sh : Sh} {d : Dt} {kd k a : Nat} {v : Option Nat} (h : gR sh d kd k a = some v) : sh.1 a = kd ∧ dfr d k a = v := by
  unfold gR at h; split at h
  · exact ⟨by assumption, Option.some.inj h⟩
  · cases h
theorem pI_s {sh : Sh} {d d1 : Dt} {kd k a : Nat} {v : Int32} (h : pI sh d kd k a v = some d1) : sh.1 a = kd ∧ uI d k a v = d1 := by
  unfold pI at h; split at h
  · exact ⟨by assumption, Option.some.inj h⟩
  · cases h
theorem pL_s {sh : Sh} {d d1 : Dt} {kd k a : Nat} {v : Int64} (h : pL sh d kd k a v = some d1) : sh.1 a = kd ∧ uL d k a v = d1 := by
  unfold pL at h; split at h
  · exact ⟨by assumption, Option.some.inj h⟩
  · cases h
theorem pR_s {sh : Sh} {d d1 : Dt} {kd k a : Nat} {v : Option Nat} (h : pR sh d kd k a v = some d1) : sh.1 a = kd ∧ uR d k a v = d1 := by
  unfold pR at h; split at h
  · exact ⟨by assumption, Option.some.inj h⟩
  · cases h
theorem ix_s {sh : Sh} {kd a : Nat} {i : Int32} {j : Nat} (h : ix sh kd a i = some j) : sh.1 a = kd ∧ vp_in i (sh.2 a) ∧ i.toNatClampNeg = j := by
  unfold ix at h
  split at h
  · rename_i h1
    split at h
    · cases h
    · rename_i h2
      split at h
      · cases h
      · rename_i h3
        exact ⟨h1, fun q => q.elim h2 h3, Option.some.inj h⟩
  · cases h
theorem lnA_s {sh : Sh} {kd a : Nat} {v : Int32} (h : lnA sh kd a = some v) : sh.1 a = kd ∧ Int32.ofNat (sh.2 a) = v := by
  unfold lnA at h; split at h
  · exact ⟨by assumption, Option.some.inj h⟩
  · cases h
/-- the fields of an object, in the order of its slots -/
def wF (d : Dt) (ci a : Nat) : List Value := match ci with
  | 0 => [.int (dfi d 32 a), va_rf (dfr d 33 a), .int (dfi d 34 a)]
  | 1 => [.int (dfi d 64 a), .int (dfi d 65 a), .int (dfi d 66 a), .int (dfi d 67 a), .int (dfi d 68 a), .long (dfl d 69 a), .int (dfi d 70 a), .int (dfi d 71 a), va_rf (dfr d 72 a), va_rf (dfr d 73 a)]
  | 2 => [.int (dfi d 96 a), va_rf (dfr d 97 a), va_rf (dfr d 98 a), va_rf (dfr d 99 a), va_rf (dfr d 100 a), va_rf (dfr d 101 a), .int (dfi d 102 a)]
  | 3 => [va_rf (dfr d 128 a), va_rf (dfr d 129 a), .int (dfi d 130 a)]
  | 4 => [.int (dfi d 160 a), .int (dfi d 161 a), va_rf (dfr d 162 a), va_rf (dfr d 163 a)]
  | 5 => [va_rf (dfr d 192 a)]
  | 6 => [va_rf (dfr d 224 a), .int (dfi d 225 a)]
  | 7 => [va_rf (dfr d 256 a), va_rf (dfr d 257 a), va_rf (dfr d 258 a), va_rf (dfr d 259 a), va_rf (dfr d 260 a), va_rf (dfr d 261 a), .int (dfi d 262 a), .int (dfi d 263 a), .int (dfi d 264 a), .long (dfl d 265 a)]
  | 8 => [.int (dfi d 288 a), va_rf (dfr d 289 a), .int (dfi d 290 a), va_rf (dfr d 291 a), va_rf (dfr d 292 a), va_rf (dfr d 293 a), va_rf (dfr d 294 a), .int (dfi d 295 a), va_rf (dfr d 296 a), .int (dfi d 297 a), va_rf (dfr d 298 a), va_rf (dfr d 299 a), va_rf (dfr d 300 a), va_rf (dfr d 301 a), va_rf (dfr d 302 a), va_rf (dfr d 303 a), va_rf (dfr d 304 a), va_rf (dfr d 305 a), .long (dfl d 306 a), va_rf (dfr d 307 a), .int (dfi d 308 a), va_rf (dfr d 309 a), va_rf (dfr d 310 a), va_rf (dfr d 311 a), va_rf (dfr d 312 a), va_rf (dfr d 313 a), va_rf (dfr d 314 a), va_rf (dfr d 315 a)]
  | _ => []
def wE (cy : Nat → ClassId) (sh : Sh) (d : Dt) (a : Nat) : va_E :=
  if sh.1 a < 20 then .inr (sh.1 a - 1, wF d (sh.1 a - 1) a)
  else if sh.1 a = 20 then .inl (cy 0, sh.2 a, .inl (dai d a))
  else if sh.1 a = 21 then .inl (cy 1, sh.2 a, .inr (.inl (dal d a)))
  else if sh.1 a = 22 then .inl (cy 2, sh.2 a, .inl (dai d a))
  else .inl (cy (sh.1 a - 20), sh.2 a, .inr (.inr (.inr (.inr (dar d a)))))
theorem wE_o {cy : Nat → ClassId} {sh : Sh} {d : Dt} {a : Nat} (ci : Nat) (h : sh.1 a = ci + 1) (hc : ci < 19) : wE cy sh d a = .inr (ci, wF d ci a) := by
  unfold wE; rw [if_pos (by omega), h]; rfl
theorem wE_i {cy : Nat → ClassId} {sh : Sh} {d : Dt} {a : Nat} (h : sh.1 a = 20) : wE cy sh d a = .inl (cy 0, sh.2 a, .inl (dai d a)) := by
  unfold wE; simp [h]
theorem wE_j {cy : Nat → ClassId} {sh : Sh} {d : Dt} {a : Nat} (h : sh.1 a = 21) : wE cy sh d a = .inl (cy 1, sh.2 a, .inr (.inl (dal d a))) := by
  unfold wE; simp [h]
theorem wE_z {cy : Nat → ClassId} {sh : Sh} {d : Dt} {a : Nat} (h : sh.1 a = 22) : wE cy sh d a = .inl (cy 2, sh.2 a, .inl (dai d a)) := by
  unfold wE; simp [h]
theorem wE_r {cy : Nat → ClassId} {sh : Sh} {d : Dt} {a : Nat} (t : Nat) (h : sh.1 a = t + 20) (ht : 3 ≤ t) : wE cy sh d a = .inl (cy t, sh.2 a, .inr (.inr (.inr (.inr (dar d a))))) := by
  unfold wE
  rw [if_neg (by omega), if_neg (by omega), if_neg (by omega), if_neg (by omega), h, Nat.add_sub_cancel]
def HW (A : Nat → Prop) (D : va_G) (cy : Nat → ClassId) (sz : Nat) (sh : Sh) (d : Dt) (H : Heap) : Prop :=
  H.size = sz ∧ ∀ a, sh.1 a ≠ 0 → A a ∧ va_at D vwCl (a, wE cy sh d a) H
theorem HW.ats {A : Nat → Prop} {D : va_G} {cy : Nat → ClassId} {sz : Nat} {sh : Sh} {d : Dt} {H : Heap} (h : HW A D cy sz sh d H) {a : Nat} {x : va_E} (ha : sh.1 a ≠ 0) (hx : wE cy sh d a = x) : va_P D vwCl [(a, x)] H := by
  intro k q hq
  match k, hq with
  | 0, hq => cases hq; rw [← hx]; exact (h.2 a ha).2
  | k + 1, hq => simp at hq
/-- a world whose one cell is written -/
theorem HW.set {A : Nat → Prop} {D : va_G} {cy : Nat → ClassId} {sz : Nat} {sh : Sh} {d d1 : Dt} {H H1 : Heap} {a : Nat} (h : HW A D cy sz sh d H) (z : H1.size = H.size) (oq : ∀ q : Nat, q ≠ a → H1[q]? = H[q]?) (ha : va_at D vwCl (a, wE cy sh d1 a) H1) (he : ∀ b, b ≠ a → wE cy sh d1 b = wE cy sh d b) : HW A D cy sz sh d1 H1 := by
  refine ⟨z.trans h.1, fun b hb => ⟨(h.2 b hb).1, ?_⟩⟩
  by_cases hba : b = a
  · subst hba; exact ha
  · rw [he b hba]; exact (h.2 b hb).2.kept (oq b hba)
theorem wF_I (d : Dt) (k a : Nat) (v : Int32) (ci b : Nat) (h : b ≠ a) : wF (uI d k a v) ci b = wF d ci b := by
  unfold wF; split <;> simp [uI, u3, dfi, dfl, dfr, h]
theorem wF_L (d : Dt) (k a : Nat) (v : Int64) (ci b : Nat) (h : b ≠ a) : wF (uL d k a v) ci b = wF d ci b := by
  unfold wF; split <;> simp [uL, u3, dfi, dfl, dfr, h]
theorem wF_R (d : Dt) (k a : Nat) (v : Option Nat) (ci b : Nat) (h : b ≠ a) : wF (uR d k a v) ci b = wF d ci b := by
  unfold wF; split <;> simp [uR, u3, dfi, dfl, dfr, h]
theorem wF_AI (d : Dt) (a i : Nat) (v : Int32) (ci b : Nat) : wF (uAI d a i v) ci b = wF d ci b := rfl
theorem wF_AL (d : Dt) (a i : Nat) (v : Int64) (ci b : Nat) : wF (uAL d a i v) ci b = wF d ci b := rfl
theorem wF_AR (d : Dt) (a i : Nat) (v : Option Nat) (ci b : Nat) : wF (uAR d a i v) ci b = wF d ci b := rfl
/-! the tables: what every method needs of its start -/
def tysA (cy : Nat → ClassId) : List (ClassId × FieldType) := [(cy 0, .int), (cy 1, .long), (cy 2, .boolean), (cy 3, .object RX0), (cy 4, .object RX1), (cy 5, .object RX3), (cy 6, .object "java/lang/Object")]
def nws : List Cond := [(Jvm.Cond.methodLinkNest "ManyHands" (34 : Nat) ({ cls := "ManyHands$Telling", name := "<init>", desc := "()V" } : Jvm.MethodName) "ManyHands"), (Jvm.Cond.methodLinkNest "ManyHands$Hand" (11 : Nat) ({ cls := "ManyHands$Reach", name := "<init>", desc := "()V" } : Jvm.MethodName) "ManyHands"), (Jvm.Cond.methodLinkNest "ManyHands$Hand" (34 : Nat) ({ cls := "ManyHands$LeafRow", name := "<init>", desc := "()V" } : Jvm.MethodName) "ManyHands"), (Jvm.Cond.methodLinkNest "ManyHands$Page" (11 : Nat) ({ cls := "ManyHands$Reach", name := "<init>", desc := "()V" } : Jvm.MethodName) "ManyHands"), (Jvm.Cond.fieldLinkNest "ManyHands$Page" (31 : Nat) "ManyHands" "ABOVE" "[I" "ManyHands"), (Jvm.Cond.methodLinkNest "ManyHands$Entry" (11 : Nat) ({ cls := "ManyHands$Reach", name := "<init>", desc := "()V" } : Jvm.MethodName) "ManyHands"), (Jvm.Cond.methodLinkNest "ManyHands$Page" (115 : Nat) ({ cls := "ManyHands", name := "oneIf", desc := "(Z)I" } : Jvm.MethodName) "ManyHands"), (Jvm.Cond.methodLinkNest "ManyHands$Telling" (19 : Nat) ({ cls := "ManyHands", name := "folded", desc := "(JJ)J" } : Jvm.MethodName) "ManyHands"), (Jvm.Cond.methodLinkNest "ManyHands$LeafRow" (29 : Nat) ({ cls := "ManyHands", name := "folded", desc := "(JJ)J" } : Jvm.MethodName) "ManyHands"), (Jvm.Cond.castable "ManyHands$Entry" "ManyHands$Entry"), (Jvm.Cond.castable "ManyHands" "java/lang/Object"), (Jvm.Cond.castable "ManyHands$Telling" "java/lang/Object"), (Jvm.Cond.castable "ManyHandsModel" "java/lang/Object"), (Jvm.Cond.castable "ManyHands$Hand" "java/lang/Object"), (Jvm.Cond.castable "ManyHands$Reach" "java/lang/Object"), (Jvm.Cond.castable "ManyHands$LeafRow" "java/lang/Object"), (Jvm.Cond.castable "ManyHands$Page" "java/lang/Object"), (Jvm.Cond.castable "ManyHands$Entry" "java/lang/Object")]
theorem nws_go {s U : State} (hW : s.WarmedH U.vm) (h : ∀ w ∈ nws, va_Nw w s) : ∀ w ∈ nws, va_Nw w U := by
  intro w hw
  have h1 := h w hw
  simp only [nws, List.mem_cons, List.not_mem_nil, or_false] at hw
  rcases hw with rfl | rfl | rfl | rfl | rfl | rfl | rfl | rfl | rfl | rfl | rfl | rfl | rfl | rfl | rfl | rfl | rfl | rfl <;> first | exact va_Nw.warmM hW h1 | exact va_Nw.warmF hW h1 | exact va_Nw.warmC hW h1
def abV (j : Nat) : Value := .int (([0, 0, 2, 3, 0, 2, 6, 6] : List Int32).getD j 0)
/-- statics: the table ABOVE, the list's empty row -/
def STc (A : Nat → Prop) (st : Nat → Nat) (U : State) (H : Heap) : Prop :=
  va_Z "ManyHands" "ABOVE" "[I" (.ref (st 0)) A U H ∧ va_T .int (st 0) 8 abV A U H ∧ va_Z "java/util/ArrayList" "DEFAULTCAPACITY_EMPTY_ELEMENTDATA" "[Ljava/lang/Object;" (.ref (st 1)) A U H ∧ va_T (.object "java/lang/Object") (st 1) 0 (fun _ => .null) A U H
def KK (A : Nat → Prop) (D : va_G) (cy : Nat → ClassId) (st : Nat → Nat) (U : State) : Prop :=
  va_K D vwCl (tysA cy) U ∧ (∀ w ∈ nws, va_Nw w U) ∧ (va_AO RX0 U ∧ va_AO RX1 U ∧ va_AO RX3 U ∧ va_AO "java/lang/Object" U) ∧ va_Dc U ∧ va_Mi "[Ljava/lang/Object;" (st 2) U ∧ STc A st U U.heap
theorem KK.go {A : Nat → Prop} {D : va_G} {cy : Nat → ClassId} {st : Nat → Nat} {s U : State} {locs : List Loc} (h : KK A D cy st s) (hS : va_S A s.heap U.heap locs) (hW : s.WarmedH U.vm) : KK A D cy st U := by
  obtain ⟨h1, h2, ⟨a1, a2, a3, a4⟩, h3, h4, z1, z2, z3, z4⟩ := h
  have hv := hW.alike
  exact ⟨h1.moved hv, nws_go hW h2, ⟨a1.moved hv, a2.moved hv, a3.moved hv, a4.moved hv⟩, h3.moved hv, h4.moved hv, (z1.moved hv).kept (fun a q1 q2 => hS.2.1 a q1 q2), (z2.moved hv).kept (fun a q1 q2 => hS.2.1 a q1 q2), (z3.moved hv).kept (fun a q1 q2 => hS.2.1 a q1 q2), (z4.moved hv).kept (fun a q1 q2 => hS.2.1 a q1 q2)⟩
theorem KK.blind {A : Nat → Prop} {D : va_G} {cy : Nat → ClassId} {st : Nat → Nat} {U : State} (g : JFrame) (mk : MethodId) (a : Array Value) (h : KK A D cy st U) : KK A D cy st (U.calling g mk a) := by
  obtain ⟨h1, h2, ⟨a1, a2, a3, a4⟩, h3, h4, z1, z2, z3, z4⟩ := h
  have hv := Vm.Alike.refl U.vm
  exact ⟨va_K.moved (u := U) (U := U.calling g mk a) hv h1, fun w hw => va_Nw.same (u := U) (U := U.calling g mk a) (by revert w hw; decide +kernel) rfl (h2 w hw), ⟨a1.moved hv, a2.moved hv, a3.moved hv, a4.moved hv⟩, va_Dc.moved (u := U) hv h3, va_Mi.moved (u := U) hv h4, va_Z.moved (u := U) hv z1, va_T.moved (u := U) hv z2, va_Z.moved (u := U) hv z3, va_T.moved (u := U) hv z4⟩
/-- what a walk of a method's body stands on -/
def mx (p : Program) (s : State) (m : MethodId) (args : Array Value) (meth : Method) (c : Code) (y : MethodName) (cc : ByteArray) (nL : Nat) (rt : Option FieldType) (A : Nat → Prop) (D : va_G) (cy : Nat → ClassId) (st : Nat → Nat) : Prop :=
  p.tables.exec = Jvm.exec ∧ c.code = cc ∧ meth.sig.returnType = rt ∧ c.maxLocals = nL ∧ (∀ w ∈ gtb, w.before args s = true) ∧ s.vm.findClass y.cls = some m.cls ∧ meth.locks = false ∧ KK A D cy st s ∧ (∀ q, s.heap.size ≤ q → A q) ∧ meth.name = y.name
/-- what stands behind a method -/
def Qs (A : Nat → Prop) (D : va_G) (cy : Nat → ClassId) (rv : Option Value) (sz : Nat) (sh : Sh) (d : Dt) : Array Value → State → Outcome → State → Prop := fun _ st oc t => (oc = .returned rv ∧ HW A D cy sz sh d t.heap) ∧ va_F A st t
def Pcs (A : Nat → Prop) (D : va_G) (cy : Nat → ClassId) (st : Nat → Nat) (as : List Value) (sz : Nat) (sh : Sh) (d : Dt) : Array Value → State → Prop := va_Pc as (fun U => KK A D cy st U ∧ HW A D cy sz sh d U.heap ∧ ∀ q, sz ≤ q → A q)
/-- a contract: with mc cells of ms slots -/
def Ct (l : Launch) (y : MethodName) (cc : ByteArray) (nL : Nat) (rt : Option FieldType) (fr lo mc ms : Nat) (A : Nat → Prop) (D : va_G) (cy : Nat → ClassId) (st : Nat → Nat) (as : List Value) (sz : Nat) (sh : Sh) (d : Dt) (rv : Option Value) (sz1 : Nat) (sh1 : Sh) (d1 : Dt) : Prop :=
  Met l y (Cond.code y cc nL rt :: gtb) { frames := fr, cells := mc, slots := ms, locals := lo } (Pcs A D cy st as sz sh d) (Qs A D cy rv sz1 sh1 d1) mc ms A
theorem ct_of {l : Launch} {y : MethodName} {cc : ByteArray} {nL : Nat} {rt : Option FieldType} {fr lo mc ms : Nat} {A : Nat → Prop} {D : va_G} {cy : Nat → ClassId} {st : Nat → Nat} {as : List Value} {sz : Nat} {sh : Sh} {d : Dt} {rv : Option Value} {sz1 : Nat} {sh1 : Sh} {d1 : Dt} (hy : plainName y.cls = true) (hn : (lg_sl as).length ≤ nL)
    (body : ∀ p e s m args below meth c, mx p s m args meth c y cc nL rt A D cy st → HW A D cy sz sh d s.heap → va_S A s.heap s.heap [] → ∀ ls, lv_has ls nL (lv_args 0 as) → W p l e { frames := fr, cells := mc, slots := ms, locals := lo } s m args below meth c s.heap [] 0 0 (MQ below (Qs A D cy rv sz1 sh1 d1) args s mc ms A) (F0 m 0 ls [])) : Ct l y cc nL rt fr lo mc ms A D cy st as sz sh d rv sz1 sh1 d1 := by
  refine Met.ofW (cc := cc) (maxL := nL) (ret := rt) hy rfl ?_
  intro p e s m args below meth c s₁ B hml hv
  obtain ⟨rfl, hK, hw, hA⟩ := hv
  have hsz := hw.1
  rw [lg_entry_eq]
  exact body p e s m _ below meth c ⟨B.exec, B.bytes, B.returns, hml, fun w h => atoms_spec B.pre w (List.mem_cons_of_mem _ h), findClass_of_methodNamed B.named, B.notSynchronized, hK, fun q h => hA q (by omega), (name_of_methodNamed B.named B.method).1⟩ hw va_S.rf _ (lv_entry as hn)
theorem gd_ws {ws : List Cond} (h : ∀ w ∈ ws, w ∈ gtb) : GoodIn gtb ws := fun w hw => ⟨h w hw, good_of_word (List.mem_filter.mp (h w hw)).2⟩
theorem gd_code {y : MethodName} {cc : ByteArray} {nL : Nat} {rt : Option FieldType} (h : Cond.code y cc nL rt ∈ gtb) : GoodIn gtb (Cond.code y cc nL rt :: gtb) := gd_ws (fun w hw => by
  rcases List.mem_cons.mp hw with rfl | hw
  · exact h
  · exact hw)
theorem Pcs.blind (A : Nat → Prop) (D : va_G) (cy : Nat → ClassId) (st : Nat → Nat) (as : List Value) (sz : Nat) (sh : Sh) (d : Dt) : FrameBlind (Pcs A D cy st as sz sh d) := fun a U g mk h => ⟨h.1, h.2.1.blind g mk a, h.2.2⟩
theorem inJx4a65c : ∀ w ∈ u_ws RJx4a65c TJx4a65c 3, w ∈ gtb := fun w hw => List.mem_filter.mpr ⟨(by decide +kernel : ∀ w ∈ u_ws RJx4a65c TJx4a65c 3, w ∈ lw_tbl) w hw, (by decide +kernel : ∀ w ∈ u_ws RJx4a65c TJx4a65c 3, goodWord w = true) w hw⟩
theorem inX0 : ∀ w ∈ u_ws RX0 TX0 10, w ∈ gtb := fun w hw => List.mem_filter.mpr ⟨(by decide +kernel : ∀ w ∈ u_ws RX0 TX0 10, w ∈ lw_tbl) w hw, (by decide +kernel : ∀ w ∈ u_ws RX0 TX0 10, goodWord w = true) w hw⟩
theorem inX1 : ∀ w ∈ u_ws RX1 TX1 7, w ∈ gtb := fun w hw => List.mem_filter.mpr ⟨(by decide +kernel : ∀ w ∈ u_ws RX1 TX1 7, w ∈ lw_tbl) w hw, (by decide +kernel : ∀ w ∈ u_ws RX1 TX1 7, goodWord w = true) w hw⟩
theorem inX2 : ∀ w ∈ u_ws RX2 TX2 3, w ∈ gtb := fun w hw => List.mem_filter.mpr ⟨(by decide +kernel : ∀ w ∈ u_ws RX2 TX2 3, w ∈ lw_tbl) w hw, (by decide +kernel : ∀ w ∈ u_ws RX2 TX2 3, goodWord w = true) w hw⟩
theorem inX3 : ∀ w ∈ u_ws RX3 TX3 4, w ∈ gtb := fun w hw => List.mem_filter.mpr ⟨(by decide +kernel : ∀ w ∈ u_ws RX3 TX3 4, w ∈ lw_tbl) w hw, (by decide +kernel : ∀ w ∈ u_ws RX3 TX3 4, goodWord w = true) w hw⟩
theorem inX4 : ∀ w ∈ u_ws RX4 TX4 1, w ∈ gtb := fun w hw => List.mem_filter.mpr ⟨(by decide +kernel : ∀ w ∈ u_ws RX4 TX4 1, w ∈ lw_tbl) w hw, (by decide +kernel : ∀ w ∈ u_ws RX4 TX4 1, goodWord w = true) w hw⟩
theorem inX5 : ∀ w ∈ u_ws RX5 TX5 2, w ∈ gtb := fun w hw => List.mem_filter.mpr ⟨(by decide +kernel : ∀ w ∈ u_ws RX5 TX5 2, w ∈ lw_tbl) w hw, (by decide +kernel : ∀ w ∈ u_ws RX5 TX5 2, goodWord w = true) w hw⟩
theorem inX6 : ∀ w ∈ u_ws RX6 TX6 10, w ∈ gtb := fun w hw => List.mem_filter.mpr ⟨(by decide +kernel : ∀ w ∈ u_ws RX6 TX6 10, w ∈ lw_tbl) w hw, (by decide +kernel : ∀ w ∈ u_ws RX6 TX6 10, goodWord w = true) w hw⟩
theorem inX7 : ∀ w ∈ u_ws RX7 TX7 28, w ∈ gtb := fun w hw => List.mem_filter.mpr ⟨(by decide +kernel : ∀ w ∈ u_ws RX7 TX7 28, w ∈ lw_tbl) w hw, (by decide +kernel : ∀ w ∈ u_ws RX7 TX7 28, goodWord w = true) w hw⟩
section
variable {p : Program} {l : Launch} {e : Env} {R : Room} {s : State} {m : MethodId} {args : Array Value} {below : List Frame} {meth : Method} {c : Code} {H : Heap} {locs : List Loc} {cells slots : Nat} {Q : State → Prop}
variable {y : MethodName} {cc : ByteArray} {nL : Nat} {rt : Option FieldType} {A : Nat → Prop} {D : va_G} {cy : Nat → ClassId} {st : Nat → Nat} {sz : Nat} {sh : Sh} {d d1 : Dt} {pc a : Nat} {ls : Array Slot} {rest : List Value}
theorem w_get (C : mx p s m args meth c y cc nL rt A D cy st) (hw : HW A D cy sz sh d H) {ci : Nat} {Cn : String} {T : u_T} {N : Nat} (hin : ∀ w ∈ u_ws Cn T N, w ∈ gtb) (hc : vwCl[ci]? = some (Cn, T, N)) (hci : ci < 19) (hk : sh.1 a = ci + 1) (k : Nat) (hkN : k < N) {ref : String} {index : Nat} (hlink : Cond.fieldLink y.cls index ref (T k).2.1 (T k).2.2.1 ∈ gtb) (hsame : ∀ x, s.fieldFound? (T k).1 (T k).2.1 (T k).2.2.1 = some x → s.fieldFound? ref (T k).2.1 (T k).2.2.1 = some x) {v : Value} (hv : (wF d ci a)[k]? = some v) (hdg : decode cc pc = .ok (.getfield index, 3))
    (kk : W p l e R s m args below meth c H locs cells slots Q (F0 m (pc + 3) ls (v :: rest))) : W p l e R s m args below meth c H locs cells slots Q (F0 m pc ls (.ref a :: rest)) := by
  obtain ⟨hx, hb, -, -, hts, ho, -, hK, -⟩ := C
  exact va_get hx hb hts hin ho hK.1 (hw.ats (by omega) (wE_o ci hk hci)) 0 rfl hc k hkN (hts _ hlink) hsame hv hdg kk
theorem w_put (C : mx p s m args meth c y cc nL rt A D cy st) (hw : HW A D cy sz sh d H) (hS : va_S A s.heap H locs) {ci : Nat} {Cn : String} {T : u_T} {N : Nat} (hin : ∀ w ∈ u_ws Cn T N, w ∈ gtb) (ty0 : Nat → FieldType) (hty : ∀ k, k < N → parseFieldDescriptor (T k).2.2.1 = some (ty0 k)) (hnm : ∀ a, a < N → ∀ b, b < N → a ≠ b → (T a).2.1 ≠ (T b).2.1) (hc : vwCl[ci]? = some (Cn, T, N)) (hci : ci < 19) (hk : sh.1 a = ci + 1) (k : Nat) (hkN : k < N) {ref : String} {index : Nat} (hlink : Cond.fieldLink y.cls index ref (T k).2.1 (T k).2.2.1 ∈ gtb) (hsame : ∀ x, s.fieldFound? (T k).1 (T k).2.1 (T k).2.2.1 = some x → s.fieldFound? ref (T k).2.1 (T k).2.2.1 = some x) (hfin : (T k).2.2.2 = false ∨ ((T k).2.2.2 = true ∧ y.name = "<init>" ∧ (T k).1 = y.cls)) {v : Value} (hn : narrow (ty0 k) v = v) (hfit : fits (ty0 k) v = true) (hl : k < (wF d ci a).length)
    (h1 : wF d1 ci a = (wF d ci a).set k v) (h2 : ∀ cj b, b ≠ a → wF d1 cj b = wF d cj b) (h3 : d1.2.2.2 = d.2.2.2) (hdg : decode cc pc = .ok (.putfield index, 3))
    (kk : ∀ (H1 : Heap) (locs1 : List Loc), HW A D cy sz sh d1 H1 → va_S A s.heap H1 locs1 → W p l e R s m args below meth c H1 locs1 cells slots Q (F0 m (pc + 3) ls rest)) : W p l e R s m args below meth c H locs cells slots Q (F0 m pc ls (v :: .ref a :: rest)) := by
  obtain ⟨hx, hb, -, -, hts, ho, -, hK, -, hnm0⟩ := C
  have hap := va_apart (own := y.cls) hts hin ty0 hty hnm hK.1 hc
  have hA := (hw.2 a (by omega)).1
  have ha := (hw.2 a (by omega)).2
  rw [wE_o ci hk hci] at ha
  obtain ⟨r, g1, cell, q1, q2, q3, q4⟩ := ha
  have hr : r = (Cn, T, N) := Option.some.inj (g1.symm.trans hc)
  subst hr
  obtain ⟨hSl, hfc, kC, hkC, hkind⟩ := hK.1.1 ci _ hc
  obtain ⟨cf, kf, fi, f, hi, hsl⟩ := hSl k hkN
  have hlay := hts _ (hin _ (u_in_lay hkN))
  have hst := (u_facts hfc hkC (u_lays hts hin hkN) hi).1
  have he : ∀ b, b ≠ a → wE cy sh d1 b = wE cy sh d b := by
    intro b hb
    unfold wE
    rw [h2 _ b hb]
    have e1 : dai d1 = dai d := congrArg (fun z => z.1) h3
    have e2 : dal d1 = dal d := congrArg (fun z => z.2.1) h3
    have e3 : dar d1 = dar d := congrArg (fun z => z.2.2) h3
    rw [e1, e2, e3]
  have fin : ∀ H' : Heap, H'[a]? = some (cell.setSlot f.slot v) → H'.size = H.size → (∀ q, q ≠ a → H'[q]? = H[q]?) → HW A D cy sz sh d1 H' ∧ va_S A s.heap H' (locs ++ [⟨a, f.slot⟩]) := by
    intro H' e1 e2 e3
    refine ⟨hw.set e2 e3 ?_ he, hS.put e2 e3 hA⟩
    rw [wE_o ci hk hci, h1]
    rw [hsl] at e1
    exact ⟨_, hc, t_OB.to (V := updV (vp_V (wF d ci a)) k v) ⟨_, e1, q2, q3, t_set q4 hap hkN v⟩ (fun j _ => vp_updV_set hl v j)⟩
  unfold u_lay at hlay
  rcases hfin with hfin | ⟨hfin, hn1, hn2⟩
  · rw [if_neg (by rw [hfin]; decide)] at hlay
    have h6 := u_store hfc hkC hkind hlay hi (hty k hkN) hn hfit
    exact W.putK hx hb (f := f) ⟨ho, hts _ hlink, ⟨_, _, _, hsame _ hi⟩, hst⟩ (by rw [q2]; exact h6) q1 q3 (by rw [hsl]; exact k2_hasslot (q4 k hkN)) rfl rfl hdg fun H' e1 e2 e3 => kk H' _ (fin H' e1 e2 e3).1 (fin H' e1 e2 e3).2
  · rw [if_pos hfin] at hlay
    have hcf : m.cls = cf := by
      obtain ⟨_, _, c', _, _, _, -, -, hf', -, -, -, hown2, -⟩ := Cond.laysFinal_spec hlay
      have e1 : c' = cf := by have := hi.symm.trans hf'; simp at this; exact this.1.symm
      rw [hn2] at hown2
      rw [← e1]; exact Option.some.inj (ho.symm.trans hown2)
    have h6 := u_fits hfc hkC hkind (Or.inr hlay) hi (hty k hkN) hn hfit
    exact W.putFinK hx hb ho (hts _ hlink) (hsame _ hi) hst hcf (hnm0.trans hn1) (by rw [q2]; exact h6) q1 q3 (by rw [hsl]; exact k2_hasslot (q4 k hkN)) rfl rfl hdg fun H' e1 e2 e3 => kk H' _ (fin H' e1 e2 e3).1 (fin H' e1 e2 e3).2
theorem w_iald (C : mx p s m args meth c y cc nL rt A D cy st) (hw : HW A D cy sz sh d H) {i v : Int32} (hv : aI sh d 20 a i = some v) (hdg : decode cc pc = .ok (.iaload, 1))
    (kk : W p l e R s m args below meth c H locs cells slots Q (F0 m (pc + 1) ls (.int v :: rest))) : W p l e R s m args below meth c H locs cells slots Q (F0 m pc ls (.int i :: .ref a :: rest)) := by
  obtain ⟨hx, hb, -, -, -, -, -, hK, -⟩ := C
  obtain ⟨j, hj, he⟩ := bd_s hv
  obtain ⟨hk, hi, rfl⟩ := ix_s hj
  cases he
  exact va_iald hx hb hK.1 (hw.ats (by omega) (wE_i hk)) 0 0 rfl rfl hi hdg kk
theorem w_zald (C : mx p s m args meth c y cc nL rt A D cy st) (hw : HW A D cy sz sh d H) {i v : Int32} (hv : aI sh d 22 a i = some v) (hdg : decode cc pc = .ok (.baload, 1))
    (kk : W p l e R s m args below meth c H locs cells slots Q (F0 m (pc + 1) ls (.int v :: rest))) : W p l e R s m args below meth c H locs cells slots Q (F0 m pc ls (.int i :: .ref a :: rest)) := by
  obtain ⟨hx, hb, -, -, -, -, -, hK, -⟩ := C
  obtain ⟨j, hj, he⟩ := bd_s hv
  obtain ⟨hk, hi, rfl⟩ := ix_s hj
  cases he
  exact va_zald hx hb hK.1 (hw.ats (by omega) (wE_z hk)) 0 2 rfl rfl hi hdg kk
theorem w_lald (C : mx p s m args meth c y cc nL rt A D cy st) (hw : HW A D cy sz sh d H) {i : Int32} {v : Int64} (hv : aL sh d 21 a i = some v) (hdg : decode cc pc = .ok (.laload, 1))
    (kk : W p l e R s m args below meth c H locs cells slots Q (F0 m (pc + 1) ls (.long v :: rest))) : W p l e R s m args below meth c H locs cells slots Q (F0 m pc ls (.int i :: .ref a :: rest)) := by
  obtain ⟨hx, hb, -, -, -, -, -, hK, -⟩ := C
  obtain ⟨j, hj, he⟩ := bd_s hv
  obtain ⟨hk, hi, rfl⟩ := ix_s hj
  cases he
  exact va_lald hx hb hK.1 (hw.ats (by omega) (wE_j hk)) 0 1 rfl rfl hi hdg kk
theorem w_aald (C : mx p s m args meth c y cc nL rt A D cy st) (hw : HW A D cy sz sh d H) {kd : Nat} (t : Nat) {Cn : String} (ht : kd = t + 20) (ht3 : 3 ≤ t) (hty : (tysA cy)[t]? = some (cy t, .object Cn)) {i : Int32} {v : Option Nat} (hv : aR sh d kd a i = some v) (hdg : decode cc pc = .ok (.aaload, 1))
    (kk : W p l e R s m args below meth c H locs cells slots Q (F0 m (pc + 1) ls (va_rf v :: rest))) : W p l e R s m args below meth c H locs cells slots Q (F0 m pc ls (.int i :: .ref a :: rest)) := by
  obtain ⟨hx, hb, -, -, -, -, -, hK, -⟩ := C
  obtain ⟨j, hj, he⟩ := bd_s hv
  obtain ⟨hk, hi, rfl⟩ := ix_s hj
  cases he
  subst ht
  exact va_aldq hx hb hK.1 (hw.ats (by omega) (wE_r t hk ht3)) 0 t rfl hty hi hdg kk
theorem w_alen (C : mx p s m args meth c y cc nL rt A D cy st) (hw : HW A D cy sz sh d H) {kd : Nat} (t : Nat) {ty : FieldType} (ht : kd = t + 20) (hty : (tysA cy)[t]? = some (cy t, ty)) {v : Int32} (hv : lnA sh kd a = some v) (hdg : decode cc pc = .ok (.arraylength, 1))
    (kk : W p l e R s m args below meth c H locs cells slots Q (F0 m (pc + 1) ls (.int v :: rest))) : W p l e R s m args below meth c H locs cells slots Q (F0 m pc ls (.ref a :: rest)) := by
  obtain ⟨hx, hb, -, -, -, -, -, hK, -⟩ := C
  obtain ⟨hk, he⟩ := lnA_s hv
  subst ht
  match t, hk, hty with
  | 0, hk, hty => exact va_alen hx hb hK.1 (hw.ats (by omega) (wE_i hk)) 0 0 rfl hty he hdg kk
  | 1, hk, hty => exact va_alen hx hb hK.1 (hw.ats (by omega) (wE_j hk)) 0 1 rfl hty he hdg kk
  | 2, hk, hty => exact va_alen hx hb hK.1 (hw.ats (by omega) (wE_z hk)) 0 2 rfl hty he hdg kk
  | t + 3, hk, hty => exact va_alen hx hb hK.1 (hw.ats (by omega) (wE_r (t + 3) hk (by omega))) 0 (t + 3) rfl hty he hdg kk
theorem wE_AI {cy : Nat → ClassId} {sh : Sh} {d : Dt} {a i b : Nat} {v : Int32} (hb : b ≠ a) : wE cy sh (uAI d a i v) b = wE cy sh d b := by
  unfold wE
  have e1 : dai (uAI d a i v) b = dai d b := by funext j; simp [dai, uAI, u3, hb]
  rw [e1]; rfl
theorem wE_AL {cy : Nat → ClassId} {sh : Sh} {d : Dt} {a i b : Nat} {v : Int64} (hb : b ≠ a) : wE cy sh (uAL d a i v) b = wE cy sh d b := by
  unfold wE
  have e1 : dal (uAL d a i v) b = dal d b := by funext j; simp [dal, uAL, u3, hb]
  rw [e1]; rfl
theorem wE_AR {cy : Nat → ClassId} {sh : Sh} {d : Dt} {a i b : Nat} {v : Option Nat} (hb : b ≠ a) : wE cy sh (uAR d a i v) b = wE cy sh d b := by
  unfold wE
  have e1 : dar (uAR d a i v) b = dar d b := by funext j; simp [dar, uAR, u3, hb]
  rw [e1]; rfl
theorem w_iast (C : mx p s m args meth c y cc nL rt A D cy st) (hw : HW A D cy sz sh d H) (hS : va_S A s.heap H locs) {i v : Int32} (hv : sI sh d 20 a i v = some d1) (hdg : decode cc pc = .ok (.iastore, 1))
    (kk : ∀ (H1 : Heap) (locs1 : List Loc), HW A D cy sz sh d1 H1 → va_S A s.heap H1 locs1 → W p l e R s m args below meth c H1 locs1 cells slots Q (F0 m (pc + 1) ls rest)) : W p l e R s m args below meth c H locs cells slots Q (F0 m pc ls (.int v :: .int i :: .ref a :: rest)) := by
  obtain ⟨hx, hb, -, -, -, -, -, hK, -⟩ := C
  obtain ⟨j, hj, he⟩ := bd_s hv
  obtain ⟨hk, hi, rfl⟩ := ix_s hj
  cases he
  have ha := hw.2 a (by omega)
  rw [wE_i hk] at ha
  refine W.iast hx hb ha.2 ((hK.1.2 0 _ rfl).1 (sh.2 a) (fun j => .int (dai d a j))) (fun q => by cases q) (by show ¬ (i < 0 ∨ (arrV _ _ _).slots.size ≤ _); rw [arrV_size]; exact hi) rfl rfl hdg fun H1 e z oq => ?_
  refine kk H1 _ (hw.set z oq ?_ (fun b hb => wE_AI hb)) (hS.put z oq ha.1)
  rw [wE_i hk]
  show H1[a]? = some (vp_cell _ _)
  rw [e, vp_cell_i, vp_cell_i, arrV_store]
  congr 2
  funext q
  by_cases hq : q = i.toNatClampNeg
  · subst hq
    simp [updV, dai, uAI, u3]
  · simp [updV, dai, uAI, u3, hq]
theorem w_zast (C : mx p s m args meth c y cc nL rt A D cy st) (hw : HW A D cy sz sh d H) (hS : va_S A s.heap H locs) {i v : Int32} (hv : sZ sh d 22 a i v = some d1) (hdg : decode cc pc = .ok (.bastore, 1))
    (kk : ∀ (H1 : Heap) (locs1 : List Loc), HW A D cy sz sh d1 H1 → va_S A s.heap H1 locs1 → W p l e R s m args below meth c H1 locs1 cells slots Q (F0 m (pc + 1) ls rest)) : W p l e R s m args below meth c H locs cells slots Q (F0 m pc ls (.int v :: .int i :: .ref a :: rest)) := by
  obtain ⟨hx, hb, -, -, -, -, -, hK, -⟩ := C
  obtain ⟨j, hj, he⟩ := bd_s hv
  obtain ⟨hk, hi, rfl⟩ := ix_s hj
  cases he
  have ha := hw.2 a (by omega)
  rw [wE_z hk] at ha
  refine W.zast hx hb ha.2 ((hK.1.2 2 _ rfl).1 (sh.2 a) (fun j => .int (dai d a j))) (fun q => by cases q) (by show ¬ (i < 0 ∨ (arrV _ _ _).slots.size ≤ _); rw [arrV_size]; exact hi) rfl rfl hdg fun H1 e z oq => ?_
  refine kk H1 _ (hw.set z oq ?_ (fun b hb => wE_AI hb)) (hS.put z oq ha.1)
  rw [wE_z hk]
  show H1[a]? = some (vp_cell _ _)
  rw [e, vp_cell_i, vp_cell_i, arrV_store]
  congr 2
  funext q
  by_cases hq : q = i.toNatClampNeg
  · subst hq
    simp [updV, dai, uAI, u3, vp_nar]
    try rfl
  · simp [updV, dai, uAI, u3, hq]
theorem w_last (C : mx p s m args meth c y cc nL rt A D cy st) (hw : HW A D cy sz sh d H) (hS : va_S A s.heap H locs) {i : Int32} {v : Int64} (hv : sL sh d 21 a i v = some d1) (hdg : decode cc pc = .ok (.lastore, 1))
    (kk : ∀ (H1 : Heap) (locs1 : List Loc), HW A D cy sz sh d1 H1 → va_S A s.heap H1 locs1 → W p l e R s m args below meth c H1 locs1 cells slots Q (F0 m (pc + 1) ls rest)) : W p l e R s m args below meth c H locs cells slots Q (F0 m pc ls (.long v :: .int i :: .ref a :: rest)) := by
  obtain ⟨hx, hb, -, -, -, -, -, hK, -⟩ := C
  obtain ⟨j, hj, he⟩ := bd_s hv
  obtain ⟨hk, hi, rfl⟩ := ix_s hj
  cases he
  have ha := hw.2 a (by omega)
  rw [wE_j hk] at ha
  refine W.last hx hb ha.2 ((hK.1.2 1 _ rfl).1 (sh.2 a) (fun j => .long (dal d a j))) (fun q => by cases q) (by show ¬ (i < 0 ∨ (arrV _ _ _).slots.size ≤ _); rw [arrV_size]; exact hi) rfl rfl hdg fun H1 e z oq => ?_
  refine kk H1 _ (hw.set z oq ?_ (fun b hb => wE_AL hb)) (hS.put z oq ha.1)
  rw [wE_j hk]
  show H1[a]? = some (vp_cell _ _)
  rw [e, vp_cell_l, vp_cell_l, arrV_store]
  congr 2
  funext q
  by_cases hq : q = i.toNatClampNeg
  · subst hq
    simp [updV, dal, uAL, u3]
  · simp [updV, dal, uAL, u3, hq]
/-! returns -/
theorem rt_i (C : mx p s m args meth c y cc nL (some .int) A D cy st) (hw : HW A D cy sz sh d H) (hS : va_S A s.heap H locs) {v : Int32} (hdg : decode cc pc = .ok (.ireturn, 1)) : W p l e R s m args below meth c H locs cells slots (MQ below (Qs A D cy (some (.int v)) sz sh d) args s cells slots A) (F0 m pc ls [.int v]) := by
  obtain ⟨hx, hb, hr, -, -, -, hlk, -⟩ := C
  exact W.iret hx hb hr (fun t ht _ => ⟨⟨rfl, by rw [ht]; exact hw⟩, hS.F ht⟩) hS.2.2 hdg hlk
theorem rt_z (C : mx p s m args meth c y cc nL (some .boolean) A D cy st) (hw : HW A D cy sz sh d H) (hS : va_S A s.heap H locs) (b : Bool) {v : Int32} (hv : v = bI b) (hdg : decode cc pc = .ok (.ireturn, 1)) : W p l e R s m args below meth c H locs cells slots (MQ below (Qs A D cy (some (.int (bI b))) sz sh d) args s cells slots A) (F0 m pc ls [.int v]) := by
  obtain ⟨hx, hb, hr, -, -, -, hlk, -⟩ := C
  subst hv
  exact W.zret hx hb hr (by cases b <;> rfl) (fun t ht _ => ⟨⟨rfl, by rw [ht]; exact hw⟩, hS.F ht⟩) hS.2.2 hdg hlk
theorem rt_l (C : mx p s m args meth c y cc nL (some .long) A D cy st) (hw : HW A D cy sz sh d H) (hS : va_S A s.heap H locs) {v : Int64} (hdg : decode cc pc = .ok (.lreturn, 1)) : W p l e R s m args below meth c H locs cells slots (MQ below (Qs A D cy (some (.long v)) sz sh d) args s cells slots A) (F0 m pc ls [.long v]) := by
  obtain ⟨hx, hb, hr, -, -, -, hlk, -⟩ := C
  exact W.lret hx hb hr (fun t ht _ => ⟨⟨rfl, by rw [ht]; exact hw⟩, hS.F ht⟩) hS.2.2 hdg hlk
theorem rt_v (C : mx p s m args meth c y cc nL none A D cy st) (hw : HW A D cy sz sh d H) (hS : va_S A s.heap H locs) (hdg : decode cc pc = .ok (.return_, 1)) : W p l e R s m args below meth c H locs cells slots (MQ below (Qs A D cy none sz sh d) args s cells slots A) (F0 m pc ls []) := by
  obtain ⟨hx, hb, hr, -, -, -, hlk, -⟩ := C
  exact W.vret hx hb hr (fun t ht _ => ⟨⟨rfl, by rw [ht]; exact hw⟩, hS.F ht⟩) hS.2.2 hdg hlk
theorem rt_a {n : String} (C : mx p s m args meth c y cc nL (some (.object n)) A D cy st) (hw : HW A D cy sz sh d H) (hS : va_S A s.heap H locs) {v : Option Nat} (hdg : decode cc pc = .ok (.areturn, 1)) : W p l e R s m args below meth c H locs cells slots (MQ below (Qs A D cy (some (va_rf v)) sz sh d) args s cells slots A) (F0 m pc ls [va_rf v]) := by
  obtain ⟨hx, hb, hr, -, -, -, hlk, -⟩ := C
  exact W.aret hx hb hr (Or.inl ⟨n, rfl⟩) (by cases v; exact Or.inl rfl; exact Or.inr ⟨_, rfl⟩) (fun t ht _ => ⟨⟨rfl, by rw [ht]; exact hw⟩, hS.F ht⟩) hS.2.2 hdg hlk
/-! calls -/
variable {y1 : MethodName} {cc1 : ByteArray} {nL1 : Nat} {rt1 : Option FieldType} {fr lo mc ms b index ci : Nat} {As st0 : List Value} {rv : Option Value} {sz1 : Nat} {sh1 : Sh}
theorem run_go {a0 : Array Value} (hr : va_Run p l e R s m args below meth c H locs cells slots mc ms (F0 m pc ls st0) rest (Qs A D cy rv sz1 sh1 d1 a0) A) (hS : va_S A s.heap H locs)
    (kk : ∀ (H1 : Heap) (locs1 : List Loc), HW A D cy sz1 sh1 d1 H1 → va_S A s.heap H1 locs1 → W p l e R s m args below meth c H1 locs1 (cells + mc) (slots + ms) Q (F0 m (pc + 3) ls (rv.toList ++ rest))) : W p l e R s m args below meth c H locs cells slots Q (F0 m pc ls st0) := by
  intro T hT X
  obtain ⟨v, st₀, t, T', L, h0, X', hL, e1, e2, ⟨⟨hv, hh⟩, hz, hk⟩, stp⟩ := hr T hT X
  cases hv
  rw [h0] at hz hk
  obtain ⟨t2, a1, b1⟩ := kk T'.heap (locs ++ L) (by rw [e1]; exact hh) ⟨Nat.le_trans hS.1 (by rw [e1]; exact hz), fun q h1 h2 => by rw [e1, hk q (Nat.lt_of_lt_of_le h1 hS.1) h2]; exact hS.2.1 q h1 h2, fun q hq => (List.mem_append.mp hq).elim (hS.2.2 q) (hL q)⟩ T' rfl X'
  exact ⟨t2, stp t2 a1, b1⟩
theorem pre_go (C : mx p s m args meth c y cc nL rt A D cy st) (hw : HW A D cy sz sh d H) (hS : va_S A s.heap H locs) (As : List Value) : PreS s H (Pcs A D cy st As sz sh d) As := by
  obtain ⟨-, -, -, -, -, -, -, hK, hA, -⟩ := C
  have h1 := hw.1
  have h2 := hS.1
  exact ⟨Pcs.blind A D cy st As sz sh d, fun U hU hW => ⟨rfl, hK.go (locs := locs) (by rw [hU]; exact hS) hW, by rw [hU]; exact hw, fun q hq => hA q (by omega)⟩⟩
/-- what is known of a virtual callee -/
def CV (y1 : MethodName) (cc1 : ByteArray) (nL1 : Nat) (rt1 : Option FieldType) (ci n : Nat) : Prop := Cond.instanceMethod y1 ∈ gtb ∧ Cond.selects y1.cls y1 y1 ∈ gtb ∧ Cond.initialized y1.cls ∈ gtb ∧ Cond.code y1 cc1 nL1 rt1 ∈ gtb ∧ (∃ T N, vwCl[ci]? = some (y1.cls, T, N)) ∧ ci < 19 ∧ y1.cls ≠ "java/lang/invoke/MethodHandle" ∧ y1.cls ≠ "java/lang/invoke/VarHandle" ∧ (parseMethodDescriptor y1.desc).map (fun d => d.parameters.length) = some n
def CS (y1 : MethodName) (cc1 : ByteArray) (nL1 : Nat) (rt1 : Option FieldType) (n : Nat) : Prop := Cond.static y1 ∈ gtb ∧ Cond.initialized y1.cls ∈ gtb ∧ Cond.code y1 cc1 nL1 rt1 ∈ gtb ∧ y1.cls ≠ "java/lang/invoke/MethodHandle" ∧ y1.cls ≠ "java/lang/invoke/VarHandle" ∧ (parseMethodDescriptor y1.desc).map (fun d => d.parameters.length) = some n
theorem cl_V (C : mx p s m args meth c y cc nL rt A D cy st) (hw : HW A D cy sz sh d H) (hS : va_S A s.heap H locs) (hc : Ct l y1 cc1 nL1 rt1 fr lo mc ms A D cy st (.ref b :: As) sz sh d rv sz1 sh1 d1) (V : CV y1 cc1 nL1 rt1 ci As.length) (hlink : Cond.methodLink y.cls index y1 ∈ gtb) (hk : sh.1 b = ci + 1) (hR : fr + 1 ≤ R.frames ∧ 8 + (nL1 + 11) + lo ≤ R.locals) (hls : ls.size = nL) (hst : st0 = As.reverse ++ .ref b :: rest) (hW : (rest.map fun v => v.category).sum ≤ 8) (hdg : decode cc pc = .ok (.invokevirtual index, 3)) (hf : cells + mc ≤ R.cells ∧ slots + ms ≤ R.slots)
    (kk : ∀ (H1 : Heap) (locs1 : List Loc), HW A D cy sz1 sh1 d1 H1 → va_S A s.heap H1 locs1 → W p l e R s m args below meth c H1 locs1 (cells + mc) (slots + ms) Q (F0 m (pc + 3) ls (rv.toList ++ rest))) : W p l e R s m args below meth c H locs cells slots Q (F0 m pc ls st0) := by
  obtain ⟨v1, v2, v3, v4, ⟨T, N, v5⟩, v6, v7, v8, v9⟩ := V
  have hp := pre_go C hw hS (.ref b :: As)
  obtain ⟨hx, hb, -, hml, hts, ho, -, hK, -⟩ := C
  refine run_go (va_runV (As := As) (rest := rest) (C := y1.cls) (n := As.length) (Ts := gtb) (own := y.cls) ⟨hx, hb, hml, ho, hts⟩ hc ⟨callB_of _ hts (gd_code v4) rfl rfl rfl (hts _ v3) (hts _ hlink) ⟨v7, v8, v9⟩ hR, hts _ v1, hts _ v2⟩ ⟨hp.1, va_recv hK.1 (hw.ats (by omega) (wE_o ci hk v6)) v5 (q0 := 0) rfl, hp.2⟩ rfl rfl hls hst (by show 2 * 0 + _ ≤ 8; omega) hdg hf) hS kk
theorem cl_S (C : mx p s m args meth c y cc nL rt A D cy st) (hw : HW A D cy sz sh d H) (hS : va_S A s.heap H locs) (hc : Ct l y1 cc1 nL1 rt1 fr lo mc ms A D cy st As sz sh d rv sz1 sh1 d1) (V : CS y1 cc1 nL1 rt1 As.length) (hlink : Cond.methodLink y.cls index y1 ∈ gtb) (hR : fr + 1 ≤ R.frames ∧ 8 + (nL1 + 11) + lo ≤ R.locals) (hls : ls.size = nL) (hst : st0 = As.reverse ++ rest) (hW : (rest.map fun v => v.category).sum ≤ 8) (hdg : decode cc pc = .ok (.invokestatic index, 3)) (hf : cells + mc ≤ R.cells ∧ slots + ms ≤ R.slots)
    (kk : ∀ (H1 : Heap) (locs1 : List Loc), HW A D cy sz1 sh1 d1 H1 → va_S A s.heap H1 locs1 → W p l e R s m args below meth c H1 locs1 (cells + mc) (slots + ms) Q (F0 m (pc + 3) ls (rv.toList ++ rest))) : W p l e R s m args below meth c H locs cells slots Q (F0 m pc ls st0) := by
  obtain ⟨v1, v3, v4, v7, v8, v9⟩ := V
  have hp := pre_go C hw hS As
  obtain ⟨hx, hb, -, hml, hts, ho, -, hK, -⟩ := C
  exact run_go (va_runS (As := As) (rest := rest) (n := As.length) (Ts := gtb) (own := y.cls) ⟨hx, hb, hml, ho, hts⟩ hc ⟨callB_of _ hts (gd_code v4) rfl rfl rfl (hts _ v3) (hts _ hlink) ⟨v7, v8, v9⟩ hR, hts _ v1⟩ hp rfl rfl hls hst (by show 2 * 0 + _ ≤ 8; omega) hdg hf) hS kk
theorem cl_SN {host : String} (C : mx p s m args meth c y cc nL rt A D cy st) (hw : HW A D cy sz sh d H) (hS : va_S A s.heap H locs) (hc : Ct l y1 cc1 nL1 rt1 fr lo mc ms A D cy st As sz sh d rv sz1 sh1 d1) (V : CS y1 cc1 nL1 rt1 As.length) (hlink : Cond.methodLinkNest y.cls index y1 host ∈ nws) (hR : fr + 1 ≤ R.frames ∧ 8 + (nL1 + 11) + lo ≤ R.locals) (hls : ls.size = nL) (hst : st0 = As.reverse ++ rest) (hW : (rest.map fun v => v.category).sum ≤ 8) (hdg : decode cc pc = .ok (.invokestatic index, 3)) (hf : cells + mc ≤ R.cells ∧ slots + ms ≤ R.slots)
    (kk : ∀ (H1 : Heap) (locs1 : List Loc), HW A D cy sz1 sh1 d1 H1 → va_S A s.heap H1 locs1 → W p l e R s m args below meth c H1 locs1 (cells + mc) (slots + ms) Q (F0 m (pc + 3) ls (rv.toList ++ rest))) : W p l e R s m args below meth c H locs cells slots Q (F0 m pc ls st0) := by
  obtain ⟨v1, v3, v4, v7, v8, v9⟩ := V
  have hp := pre_go C hw hS As
  obtain ⟨hx, hb, -, hml, hts, ho, -, hK, -⟩ := C
  exact run_go (va_runSN (As := As) (rest := rest) (n := As.length) (Ts := gtb) (own := y.cls) (host := host) ⟨hx, hb, hml, ho, hts⟩ hc ⟨va_cnB _ hts (gd_code v4) rfl rfl rfl (hK.2.1 _ hlink) (hts _ v3) ⟨v7, v8, v9⟩ hR, hts _ v1, trivial⟩ hp rfl rfl hls hst (by show 2 * 0 + _ ≤ 8; omega) hdg hf) hS kk
end
end
section
section
variable {p : Program} {l : Launch} {e : Env} {R : Room} {s : State} {m : MethodId} {args : Array Value} {below : List Frame} {meth : Method} {c : Code} {H : Heap} {locs : List Loc} {cells slots : Nat} {Q : State → Prop}
variable {y : MethodName} {cc : ByteArray} {nL : Nat} {rt : Option FieldType} {A : Nat → Prop} {D : va_G} {cy : Nat → ClassId} {st : Nat → Nat} {sz : Nat} {sh : Sh} {d d1 : Dt} {pc a : Nat} {ls : Array Slot} {rest : List Value}
theorem gt_32 (C : mx p s m args meth c y cc nL rt A D cy st) (hw : HW A D cy sz sh d H) {v : Int32} (hv : gI sh d 1 32 a = some v) {index : Nat} (hlink : Cond.fieldLink y.cls index "java/util/ArrayList" "modCount" "I" ∈ gtb) (hdg : decode cc pc = .ok (.getfield index, 3)) (kk : W p l e R s m args below meth c H locs cells slots Q (F0 m (pc + 3) ls (.int v :: rest))) : W p l e R s m args below meth c H locs cells slots Q (F0 m pc ls (.ref a :: rest)) := by
  obtain ⟨hk, rfl⟩ := gI_s hv
  exact w_get C hw inJx4a65c rfl (by decide) hk 0 (by decide) hlink (fun x9 h9 => u_same (C.2.2.2.2.1 _ kw_48) x9 h9) rfl hdg kk
theorem pt_32 (C : mx p s m args meth c y cc nL rt A D cy st) (hw : HW A D cy sz sh d H) (hS : va_S A s.heap H locs) {v : Int32} (hv : pI sh d 1 32 a v = some d1) {index : Nat} (hlink : Cond.fieldLink y.cls index "java/util/ArrayList" "modCount" "I" ∈ gtb) (hdg : decode cc pc = .ok (.putfield index, 3)) (kk : ∀ (H1 : Heap) (locs1 : List Loc), HW A D cy sz sh d1 H1 → va_S A s.heap H1 locs1 → W p l e R s m args below meth c H1 locs1 cells slots Q (F0 m (pc + 3) ls rest)) : W p l e R s m args below meth c H locs cells slots Q (F0 m pc ls (.int v :: .ref a :: rest)) := by
  obtain ⟨hk, rfl⟩ := pI_s hv
  exact w_put C hw hS inJx4a65c tyJx4a65c tyJx4a65c_ok nmJx4a65c rfl (by decide) hk 0 (by decide) hlink (fun x9 h9 => u_same (C.2.2.2.2.1 _ kw_48) x9 h9) (Or.inl rfl) rfl rfl (Nat.le_of_ble_eq_true rfl) (by simp [wF, uI, u3, dfi, dfl, dfr]) (fun cj b hb => wF_I d _ _ _ cj b hb) rfl hdg kk
theorem gt_33 (C : mx p s m args meth c y cc nL rt A D cy st) (hw : HW A D cy sz sh d H) {v : Option Nat} (hv : gR sh d 1 33 a = some v) {index : Nat} (hlink : Cond.fieldLink y.cls index "java/util/ArrayList" "elementData" "[Ljava/lang/Object;" ∈ gtb) (hdg : decode cc pc = .ok (.getfield index, 3)) (kk : W p l e R s m args below meth c H locs cells slots Q (F0 m (pc + 3) ls (va_rf v :: rest))) : W p l e R s m args below meth c H locs cells slots Q (F0 m pc ls (.ref a :: rest)) := by
  obtain ⟨hk, rfl⟩ := gR_s hv
  exact w_get C hw inJx4a65c rfl (by decide) hk 1 (by decide) hlink (fun _ h => h) rfl hdg kk
theorem pt_33 (C : mx p s m args meth c y cc nL rt A D cy st) (hw : HW A D cy sz sh d H) (hS : va_S A s.heap H locs) {v : Option Nat} (hv : pR sh d 1 33 a v = some d1) {index : Nat} (hlink : Cond.fieldLink y.cls index "java/util/ArrayList" "elementData" "[Ljava/lang/Object;" ∈ gtb) (hdg : decode cc pc = .ok (.putfield index, 3)) (kk : ∀ (H1 : Heap) (locs1 : List Loc), HW A D cy sz sh d1 H1 → va_S A s.heap H1 locs1 → W p l e R s m args below meth c H1 locs1 cells slots Q (F0 m (pc + 3) ls rest)) : W p l e R s m args below meth c H locs cells slots Q (F0 m pc ls (va_rf v :: .ref a :: rest)) := by
  obtain ⟨hk, rfl⟩ := pR_s hv
  exact w_put C hw hS inJx4a65c tyJx4a65c tyJx4a65c_ok nmJx4a65c rfl (by decide) hk 1 (by decide) hlink (fun _ h => h) (Or.inl rfl) (by cases v <;> rfl) (by cases v <;> rfl) (Nat.le_of_ble_eq_true rfl) (by simp [wF, uR, u3, dfi, dfl, dfr]) (fun cj b hb => wF_R d _ _ _ cj b hb) rfl hdg kk
theorem gt_34 (C : mx p s m args meth c y cc nL rt A D cy st) (hw : HW A D cy sz sh d H) {v : Int32} (hv : gI sh d 1 34 a = some v) {index : Nat} (hlink : Cond.fieldLink y.cls index "java/util/ArrayList" "size" "I" ∈ gtb) (hdg : decode cc pc = .ok (.getfield index, 3)) (kk : W p l e R s m args below meth c H locs cells slots Q (F0 m (pc + 3) ls (.int v :: rest))) : W p l e R s m args below meth c H locs cells slots Q (F0 m pc ls (.ref a :: rest)) := by
  obtain ⟨hk, rfl⟩ := gI_s hv
  exact w_get C hw inJx4a65c rfl (by decide) hk 2 (by decide) hlink (fun _ h => h) rfl hdg kk
theorem pt_34 (C : mx p s m args meth c y cc nL rt A D cy st) (hw : HW A D cy sz sh d H) (hS : va_S A s.heap H locs) {v : Int32} (hv : pI sh d 1 34 a v = some d1) {index : Nat} (hlink : Cond.fieldLink y.cls index "java/util/ArrayList" "size" "I" ∈ gtb) (hdg : decode cc pc = .ok (.putfield index, 3)) (kk : ∀ (H1 : Heap) (locs1 : List Loc), HW A D cy sz sh d1 H1 → va_S A s.heap H1 locs1 → W p l e R s m args below meth c H1 locs1 cells slots Q (F0 m (pc + 3) ls rest)) : W p l e R s m args below meth c H locs cells slots Q (F0 m pc ls (.int v :: .ref a :: rest)) := by
  obtain ⟨hk, rfl⟩ := pI_s hv
  exact w_put C hw hS inJx4a65c tyJx4a65c tyJx4a65c_ok nmJx4a65c rfl (by decide) hk 2 (by decide) hlink (fun _ h => h) (Or.inl rfl) rfl rfl (Nat.le_of_ble_eq_true rfl) (by simp [wF, uI, u3, dfi, dfl, dfr]) (fun cj b hb => wF_I d _ _ _ cj b hb) rfl hdg kk
theorem gt_64 (C : mx p s m args meth c y cc nL rt A D cy st) (hw : HW A D cy sz sh d H) {v : Int32} (hv : gI sh d 2 64 a = some v) {index : Nat} (hlink : Cond.fieldLink y.cls index "ManyHands$Entry" "number" "I" ∈ gtb) (hdg : decode cc pc = .ok (.getfield index, 3)) (kk : W p l e R s m args below meth c H locs cells slots Q (F0 m (pc + 3) ls (.int v :: rest))) : W p l e R s m args below meth c H locs cells slots Q (F0 m pc ls (.ref a :: rest)) := by
  obtain ⟨hk, rfl⟩ := gI_s hv
  exact w_get C hw inX0 rfl (by decide) hk 0 (by decide) hlink (fun _ h => h) rfl hdg kk
theorem pt_64 (C : mx p s m args meth c y cc nL rt A D cy st) (hw : HW A D cy sz sh d H) (hS : va_S A s.heap H locs) (hn : y.name = "<init>") (hcl : "ManyHands$Entry" = y.cls) {v : Int32} (hv : pI sh d 2 64 a v = some d1) {index : Nat} (hlink : Cond.fieldLink y.cls index "ManyHands$Entry" "number" "I" ∈ gtb) (hdg : decode cc pc = .ok (.putfield index, 3)) (kk : ∀ (H1 : Heap) (locs1 : List Loc), HW A D cy sz sh d1 H1 → va_S A s.heap H1 locs1 → W p l e R s m args below meth c H1 locs1 cells slots Q (F0 m (pc + 3) ls rest)) : W p l e R s m args below meth c H locs cells slots Q (F0 m pc ls (.int v :: .ref a :: rest)) := by
  obtain ⟨hk, rfl⟩ := pI_s hv
  exact w_put C hw hS inX0 tyX0 tyX0_ok nmX0 rfl (by decide) hk 0 (by decide) hlink (fun _ h => h) (Or.inr ⟨rfl, hn, hcl⟩) rfl rfl (Nat.le_of_ble_eq_true rfl) (by simp [wF, uI, u3, dfi, dfl, dfr]) (fun cj b hb => wF_I d _ _ _ cj b hb) rfl hdg kk
theorem gt_65 (C : mx p s m args meth c y cc nL rt A D cy st) (hw : HW A D cy sz sh d H) {v : Int32} (hv : gI sh d 2 65 a = some v) {index : Nat} (hlink : Cond.fieldLink y.cls index "ManyHands$Entry" "maker" "I" ∈ gtb) (hdg : decode cc pc = .ok (.getfield index, 3)) (kk : W p l e R s m args below meth c H locs cells slots Q (F0 m (pc + 3) ls (.int v :: rest))) : W p l e R s m args below meth c H locs cells slots Q (F0 m pc ls (.ref a :: rest)) := by
  obtain ⟨hk, rfl⟩ := gI_s hv
  exact w_get C hw inX0 rfl (by decide) hk 1 (by decide) hlink (fun _ h => h) rfl hdg kk
theorem pt_65 (C : mx p s m args meth c y cc nL rt A D cy st) (hw : HW A D cy sz sh d H) (hS : va_S A s.heap H locs) (hn : y.name = "<init>") (hcl : "ManyHands$Entry" = y.cls) {v : Int32} (hv : pI sh d 2 65 a v = some d1) {index : Nat} (hlink : Cond.fieldLink y.cls index "ManyHands$Entry" "maker" "I" ∈ gtb) (hdg : decode cc pc = .ok (.putfield index, 3)) (kk : ∀ (H1 : Heap) (locs1 : List Loc), HW A D cy sz sh d1 H1 → va_S A s.heap H1 locs1 → W p l e R s m args below meth c H1 locs1 cells slots Q (F0 m (pc + 3) ls rest)) : W p l e R s m args below meth c H locs cells slots Q (F0 m pc ls (.int v :: .ref a :: rest)) := by
  obtain ⟨hk, rfl⟩ := pI_s hv
  exact w_put C hw hS inX0 tyX0 tyX0_ok nmX0 rfl (by decide) hk 1 (by decide) hlink (fun _ h => h) (Or.inr ⟨rfl, hn, hcl⟩) rfl rfl (Nat.le_of_ble_eq_true rfl) (by simp [wF, uI, u3, dfi, dfl, dfr]) (fun cj b hb => wF_I d _ _ _ cj b hb) rfl hdg kk
theorem gt_66 (C : mx p s m args meth c y cc nL rt A D cy st) (hw : HW A D cy sz sh d H) {v : Int32} (hv : gI sh d 2 66 a = some v) {index : Nat} (hlink : Cond.fieldLink y.cls index "ManyHands$Entry" "page" "I" ∈ gtb) (hdg : decode cc pc = .ok (.getfield index, 3)) (kk : W p l e R s m args below meth c H locs cells slots Q (F0 m (pc + 3) ls (.int v :: rest))) : W p l e R s m args below meth c H locs cells slots Q (F0 m pc ls (.ref a :: rest)) := by
  obtain ⟨hk, rfl⟩ := gI_s hv
  exact w_get C hw inX0 rfl (by decide) hk 2 (by decide) hlink (fun _ h => h) rfl hdg kk
theorem pt_66 (C : mx p s m args meth c y cc nL rt A D cy st) (hw : HW A D cy sz sh d H) (hS : va_S A s.heap H locs) (hn : y.name = "<init>") (hcl : "ManyHands$Entry" = y.cls) {v : Int32} (hv : pI sh d 2 66 a v = some d1) {index : Nat} (hlink : Cond.fieldLink y.cls index "ManyHands$Entry" "page" "I" ∈ gtb) (hdg : decode cc pc = .ok (.putfield index, 3)) (kk : ∀ (H1 : Heap) (locs1 : List Loc), HW A D cy sz sh d1 H1 → va_S A s.heap H1 locs1 → W p l e R s m args below meth c H1 locs1 cells slots Q (F0 m (pc + 3) ls rest)) : W p l e R s m args below meth c H locs cells slots Q (F0 m pc ls (.int v :: .ref a :: rest)) := by
  obtain ⟨hk, rfl⟩ := pI_s hv
  exact w_put C hw hS inX0 tyX0 tyX0_ok nmX0 rfl (by decide) hk 2 (by decide) hlink (fun _ h => h) (Or.inr ⟨rfl, hn, hcl⟩) rfl rfl (Nat.le_of_ble_eq_true rfl) (by simp [wF, uI, u3, dfi, dfl, dfr]) (fun cj b hb => wF_I d _ _ _ cj b hb) rfl hdg kk
theorem gt_67 (C : mx p s m args meth c y cc nL rt A D cy st) (hw : HW A D cy sz sh d H) {v : Int32} (hv : gI sh d 2 67 a = some v) {index : Nat} (hlink : Cond.fieldLink y.cls index "ManyHands$Entry" "act" "I" ∈ gtb) (hdg : decode cc pc = .ok (.getfield index, 3)) (kk : W p l e R s m args below meth c H locs cells slots Q (F0 m (pc + 3) ls (.int v :: rest))) : W p l e R s m args below meth c H locs cells slots Q (F0 m pc ls (.ref a :: rest)) := by
  obtain ⟨hk, rfl⟩ := gI_s hv
  exact w_get C hw inX0 rfl (by decide) hk 3 (by decide) hlink (fun _ h => h) rfl hdg kk
theorem pt_67 (C : mx p s m args meth c y cc nL rt A D cy st) (hw : HW A D cy sz sh d H) (hS : va_S A s.heap H locs) (hn : y.name = "<init>") (hcl : "ManyHands$Entry" = y.cls) {v : Int32} (hv : pI sh d 2 67 a v = some d1) {index : Nat} (hlink : Cond.fieldLink y.cls index "ManyHands$Entry" "act" "I" ∈ gtb) (hdg : decode cc pc = .ok (.putfield index, 3)) (kk : ∀ (H1 : Heap) (locs1 : List Loc), HW A D cy sz sh d1 H1 → va_S A s.heap H1 locs1 → W p l e R s m args below meth c H1 locs1 cells slots Q (F0 m (pc + 3) ls rest)) : W p l e R s m args below meth c H locs cells slots Q (F0 m pc ls (.int v :: .ref a :: rest)) := by
  obtain ⟨hk, rfl⟩ := pI_s hv
  exact w_put C hw hS inX0 tyX0 tyX0_ok nmX0 rfl (by decide) hk 3 (by decide) hlink (fun _ h => h) (Or.inr ⟨rfl, hn, hcl⟩) rfl rfl (Nat.le_of_ble_eq_true rfl) (by simp [wF, uI, u3, dfi, dfl, dfr]) (fun cj b hb => wF_I d _ _ _ cj b hb) rfl hdg kk
theorem gt_68 (C : mx p s m args meth c y cc nL rt A D cy st) (hw : HW A D cy sz sh d H) {v : Int32} (hv : gI sh d 2 68 a = some v) {index : Nat} (hlink : Cond.fieldLink y.cls index "ManyHands$Entry" "x" "I" ∈ gtb) (hdg : decode cc pc = .ok (.getfield index, 3)) (kk : W p l e R s m args below meth c H locs cells slots Q (F0 m (pc + 3) ls (.int v :: rest))) : W p l e R s m args below meth c H locs cells slots Q (F0 m pc ls (.ref a :: rest)) := by
  obtain ⟨hk, rfl⟩ := gI_s hv
  exact w_get C hw inX0 rfl (by decide) hk 4 (by decide) hlink (fun _ h => h) rfl hdg kk
theorem pt_68 (C : mx p s m args meth c y cc nL rt A D cy st) (hw : HW A D cy sz sh d H) (hS : va_S A s.heap H locs) (hn : y.name = "<init>") (hcl : "ManyHands$Entry" = y.cls) {v : Int32} (hv : pI sh d 2 68 a v = some d1) {index : Nat} (hlink : Cond.fieldLink y.cls index "ManyHands$Entry" "x" "I" ∈ gtb) (hdg : decode cc pc = .ok (.putfield index, 3)) (kk : ∀ (H1 : Heap) (locs1 : List Loc), HW A D cy sz sh d1 H1 → va_S A s.heap H1 locs1 → W p l e R s m args below meth c H1 locs1 cells slots Q (F0 m (pc + 3) ls rest)) : W p l e R s m args below meth c H locs cells slots Q (F0 m pc ls (.int v :: .ref a :: rest)) := by
  obtain ⟨hk, rfl⟩ := pI_s hv
  exact w_put C hw hS inX0 tyX0 tyX0_ok nmX0 rfl (by decide) hk 4 (by decide) hlink (fun _ h => h) (Or.inr ⟨rfl, hn, hcl⟩) rfl rfl (Nat.le_of_ble_eq_true rfl) (by simp [wF, uI, u3, dfi, dfl, dfr]) (fun cj b hb => wF_I d _ _ _ cj b hb) rfl hdg kk
theorem gt_69 (C : mx p s m args meth c y cc nL rt A D cy st) (hw : HW A D cy sz sh d H) {v : Int64} (hv : gL sh d 2 69 a = some v) {index : Nat} (hlink : Cond.fieldLink y.cls index "ManyHands$Entry" "v" "J" ∈ gtb) (hdg : decode cc pc = .ok (.getfield index, 3)) (kk : W p l e R s m args below meth c H locs cells slots Q (F0 m (pc + 3) ls (.long v :: rest))) : W p l e R s m args below meth c H locs cells slots Q (F0 m pc ls (.ref a :: rest)) := by
  obtain ⟨hk, rfl⟩ := gL_s hv
  exact w_get C hw inX0 rfl (by decide) hk 5 (by decide) hlink (fun _ h => h) rfl hdg kk
theorem pt_69 (C : mx p s m args meth c y cc nL rt A D cy st) (hw : HW A D cy sz sh d H) (hS : va_S A s.heap H locs) (hn : y.name = "<init>") (hcl : "ManyHands$Entry" = y.cls) {v : Int64} (hv : pL sh d 2 69 a v = some d1) {index : Nat} (hlink : Cond.fieldLink y.cls index "ManyHands$Entry" "v" "J" ∈ gtb) (hdg : decode cc pc = .ok (.putfield index, 3)) (kk : ∀ (H1 : Heap) (locs1 : List Loc), HW A D cy sz sh d1 H1 → va_S A s.heap H1 locs1 → W p l e R s m args below meth c H1 locs1 cells slots Q (F0 m (pc + 3) ls rest)) : W p l e R s m args below meth c H locs cells slots Q (F0 m pc ls (.long v :: .ref a :: rest)) := by
  obtain ⟨hk, rfl⟩ := pL_s hv
  exact w_put C hw hS inX0 tyX0 tyX0_ok nmX0 rfl (by decide) hk 5 (by decide) hlink (fun _ h => h) (Or.inr ⟨rfl, hn, hcl⟩) rfl rfl (Nat.le_of_ble_eq_true rfl) (by simp [wF, uL, u3, dfi, dfl, dfr]) (fun cj b hb => wF_L d _ _ _ cj b hb) rfl hdg kk
theorem gt_70 (C : mx p s m args meth c y cc nL rt A D cy st) (hw : HW A D cy sz sh d H) {v : Int32} (hv : gI sh d 2 70 a = some v) {index : Nat} (hlink : Cond.fieldLink y.cls index "ManyHands$Entry" "stampCount" "I" ∈ gtb) (hdg : decode cc pc = .ok (.getfield index, 3)) (kk : W p l e R s m args below meth c H locs cells slots Q (F0 m (pc + 3) ls (.int v :: rest))) : W p l e R s m args below meth c H locs cells slots Q (F0 m pc ls (.ref a :: rest)) := by
  obtain ⟨hk, rfl⟩ := gI_s hv
  exact w_get C hw inX0 rfl (by decide) hk 6 (by decide) hlink (fun _ h => h) rfl hdg kk
theorem pt_70 (C : mx p s m args meth c y cc nL rt A D cy st) (hw : HW A D cy sz sh d H) (hS : va_S A s.heap H locs) (hn : y.name = "<init>") (hcl : "ManyHands$Entry" = y.cls) {v : Int32} (hv : pI sh d 2 70 a v = some d1) {index : Nat} (hlink : Cond.fieldLink y.cls index "ManyHands$Entry" "stampCount" "I" ∈ gtb) (hdg : decode cc pc = .ok (.putfield index, 3)) (kk : ∀ (H1 : Heap) (locs1 : List Loc), HW A D cy sz sh d1 H1 → va_S A s.heap H1 locs1 → W p l e R s m args below meth c H1 locs1 cells slots Q (F0 m (pc + 3) ls rest)) : W p l e R s m args below meth c H locs cells slots Q (F0 m pc ls (.int v :: .ref a :: rest)) := by
  obtain ⟨hk, rfl⟩ := pI_s hv
  exact w_put C hw hS inX0 tyX0 tyX0_ok nmX0 rfl (by decide) hk 6 (by decide) hlink (fun _ h => h) (Or.inr ⟨rfl, hn, hcl⟩) rfl rfl (Nat.le_of_ble_eq_true rfl) (by simp [wF, uI, u3, dfi, dfl, dfr]) (fun cj b hb => wF_I d _ _ _ cj b hb) rfl hdg kk
theorem gt_71 (C : mx p s m args meth c y cc nL rt A D cy st) (hw : HW A D cy sz sh d H) {v : Int32} (hv : gI sh d 2 71 a = some v) {index : Nat} (hlink : Cond.fieldLink y.cls index "ManyHands$Entry" "order" "I" ∈ gtb) (hdg : decode cc pc = .ok (.getfield index, 3)) (kk : W p l e R s m args below meth c H locs cells slots Q (F0 m (pc + 3) ls (.int v :: rest))) : W p l e R s m args below meth c H locs cells slots Q (F0 m pc ls (.ref a :: rest)) := by
  obtain ⟨hk, rfl⟩ := gI_s hv
  exact w_get C hw inX0 rfl (by decide) hk 7 (by decide) hlink (fun _ h => h) rfl hdg kk
theorem pt_71 (C : mx p s m args meth c y cc nL rt A D cy st) (hw : HW A D cy sz sh d H) (hS : va_S A s.heap H locs) (hn : y.name = "<init>") (hcl : "ManyHands$Entry" = y.cls) {v : Int32} (hv : pI sh d 2 71 a v = some d1) {index : Nat} (hlink : Cond.fieldLink y.cls index "ManyHands$Entry" "order" "I" ∈ gtb) (hdg : decode cc pc = .ok (.putfield index, 3)) (kk : ∀ (H1 : Heap) (locs1 : List Loc), HW A D cy sz sh d1 H1 → va_S A s.heap H1 locs1 → W p l e R s m args below meth c H1 locs1 cells slots Q (F0 m (pc + 3) ls rest)) : W p l e R s m args below meth c H locs cells slots Q (F0 m pc ls (.int v :: .ref a :: rest)) := by
  obtain ⟨hk, rfl⟩ := pI_s hv
  exact w_put C hw hS inX0 tyX0 tyX0_ok nmX0 rfl (by decide) hk 7 (by decide) hlink (fun _ h => h) (Or.inr ⟨rfl, hn, hcl⟩) rfl rfl (Nat.le_of_ble_eq_true rfl) (by simp [wF, uI, u3, dfi, dfl, dfr]) (fun cj b hb => wF_I d _ _ _ cj b hb) rfl hdg kk
theorem gt_72 (C : mx p s m args meth c y cc nL rt A D cy st) (hw : HW A D cy sz sh d H) {v : Option Nat} (hv : gR sh d 2 72 a = some v) {index : Nat} (hlink : Cond.fieldLink y.cls index "ManyHands$Entry" "known" "LManyHands$Reach;" ∈ gtb) (hdg : decode cc pc = .ok (.getfield index, 3)) (kk : W p l e R s m args below meth c H locs cells slots Q (F0 m (pc + 3) ls (va_rf v :: rest))) : W p l e R s m args below meth c H locs cells slots Q (F0 m pc ls (.ref a :: rest)) := by
  obtain ⟨hk, rfl⟩ := gR_s hv
  exact w_get C hw inX0 rfl (by decide) hk 8 (by decide) hlink (fun _ h => h) rfl hdg kk
theorem pt_72 (C : mx p s m args meth c y cc nL rt A D cy st) (hw : HW A D cy sz sh d H) (hS : va_S A s.heap H locs) (hn : y.name = "<init>") (hcl : "ManyHands$Entry" = y.cls) {v : Option Nat} (hv : pR sh d 2 72 a v = some d1) {index : Nat} (hlink : Cond.fieldLink y.cls index "ManyHands$Entry" "known" "LManyHands$Reach;" ∈ gtb) (hdg : decode cc pc = .ok (.putfield index, 3)) (kk : ∀ (H1 : Heap) (locs1 : List Loc), HW A D cy sz sh d1 H1 → va_S A s.heap H1 locs1 → W p l e R s m args below meth c H1 locs1 cells slots Q (F0 m (pc + 3) ls rest)) : W p l e R s m args below meth c H locs cells slots Q (F0 m pc ls (va_rf v :: .ref a :: rest)) := by
  obtain ⟨hk, rfl⟩ := pR_s hv
  exact w_put C hw hS inX0 tyX0 tyX0_ok nmX0 rfl (by decide) hk 8 (by decide) hlink (fun _ h => h) (Or.inr ⟨rfl, hn, hcl⟩) (by cases v <;> rfl) (by cases v <;> rfl) (Nat.le_of_ble_eq_true rfl) (by simp [wF, uR, u3, dfi, dfl, dfr]) (fun cj b hb => wF_R d _ _ _ cj b hb) rfl hdg kk
theorem gt_73 (C : mx p s m args meth c y cc nL rt A D cy st) (hw : HW A D cy sz sh d H) {v : Option Nat} (hv : gR sh d 2 73 a = some v) {index : Nat} (hlink : Cond.fieldLink y.cls index "ManyHands$Entry" "earlier" "LManyHands$Entry;" ∈ gtb) (hdg : decode cc pc = .ok (.getfield index, 3)) (kk : W p l e R s m args below meth c H locs cells slots Q (F0 m (pc + 3) ls (va_rf v :: rest))) : W p l e R s m args below meth c H locs cells slots Q (F0 m pc ls (.ref a :: rest)) := by
  obtain ⟨hk, rfl⟩ := gR_s hv
  exact w_get C hw inX0 rfl (by decide) hk 9 (by decide) hlink (fun _ h => h) rfl hdg kk
theorem pt_73 (C : mx p s m args meth c y cc nL rt A D cy st) (hw : HW A D cy sz sh d H) (hS : va_S A s.heap H locs) (hn : y.name = "<init>") (hcl : "ManyHands$Entry" = y.cls) {v : Option Nat} (hv : pR sh d 2 73 a v = some d1) {index : Nat} (hlink : Cond.fieldLink y.cls index "ManyHands$Entry" "earlier" "LManyHands$Entry;" ∈ gtb) (hdg : decode cc pc = .ok (.putfield index, 3)) (kk : ∀ (H1 : Heap) (locs1 : List Loc), HW A D cy sz sh d1 H1 → va_S A s.heap H1 locs1 → W p l e R s m args below meth c H1 locs1 cells slots Q (F0 m (pc + 3) ls rest)) : W p l e R s m args below meth c H locs cells slots Q (F0 m pc ls (va_rf v :: .ref a :: rest)) := by
  obtain ⟨hk, rfl⟩ := pR_s hv
  exact w_put C hw hS inX0 tyX0 tyX0_ok nmX0 rfl (by decide) hk 9 (by decide) hlink (fun _ h => h) (Or.inr ⟨rfl, hn, hcl⟩) (by cases v <;> rfl) (by cases v <;> rfl) (Nat.le_of_ble_eq_true rfl) (by simp [wF, uR, u3, dfi, dfl, dfr]) (fun cj b hb => wF_R d _ _ _ cj b hb) rfl hdg kk
theorem gt_96 (C : mx p s m args meth c y cc nL rt A D cy st) (hw : HW A D cy sz sh d H) {v : Int32} (hv : gI sh d 3 96 a = some v) {index : Nat} (hlink : Cond.fieldLink y.cls index "ManyHands$Hand" "number" "I" ∈ gtb) (hdg : decode cc pc = .ok (.getfield index, 3)) (kk : W p l e R s m args below meth c H locs cells slots Q (F0 m (pc + 3) ls (.int v :: rest))) : W p l e R s m args below meth c H locs cells slots Q (F0 m pc ls (.ref a :: rest)) := by
  obtain ⟨hk, rfl⟩ := gI_s hv
  exact w_get C hw inX1 rfl (by decide) hk 0 (by decide) hlink (fun _ h => h) rfl hdg kk
theorem pt_96 (C : mx p s m args meth c y cc nL rt A D cy st) (hw : HW A D cy sz sh d H) (hS : va_S A s.heap H locs) (hn : y.name = "<init>") (hcl : "ManyHands$Hand" = y.cls) {v : Int32} (hv : pI sh d 3 96 a v = some d1) {index : Nat} (hlink : Cond.fieldLink y.cls index "ManyHands$Hand" "number" "I" ∈ gtb) (hdg : decode cc pc = .ok (.putfield index, 3)) (kk : ∀ (H1 : Heap) (locs1 : List Loc), HW A D cy sz sh d1 H1 → va_S A s.heap H1 locs1 → W p l e R s m args below meth c H1 locs1 cells slots Q (F0 m (pc + 3) ls rest)) : W p l e R s m args below meth c H locs cells slots Q (F0 m pc ls (.int v :: .ref a :: rest)) := by
  obtain ⟨hk, rfl⟩ := pI_s hv
  exact w_put C hw hS inX1 tyX1 tyX1_ok nmX1 rfl (by decide) hk 0 (by decide) hlink (fun _ h => h) (Or.inr ⟨rfl, hn, hcl⟩) rfl rfl (Nat.le_of_ble_eq_true rfl) (by simp [wF, uI, u3, dfi, dfl, dfr]) (fun cj b hb => wF_I d _ _ _ cj b hb) rfl hdg kk
theorem gt_97 (C : mx p s m args meth c y cc nL rt A D cy st) (hw : HW A D cy sz sh d H) {v : Option Nat} (hv : gR sh d 3 97 a = some v) {index : Nat} (hlink : Cond.fieldLink y.cls index "ManyHands$Hand" "reach" "LManyHands$Reach;" ∈ gtb) (hdg : decode cc pc = .ok (.getfield index, 3)) (kk : W p l e R s m args below meth c H locs cells slots Q (F0 m (pc + 3) ls (va_rf v :: rest))) : W p l e R s m args below meth c H locs cells slots Q (F0 m pc ls (.ref a :: rest)) := by
  obtain ⟨hk, rfl⟩ := gR_s hv
  exact w_get C hw inX1 rfl (by decide) hk 1 (by decide) hlink (fun _ h => h) rfl hdg kk
theorem pt_97 (C : mx p s m args meth c y cc nL rt A D cy st) (hw : HW A D cy sz sh d H) (hS : va_S A s.heap H locs) (hn : y.name = "<init>") (hcl : "ManyHands$Hand" = y.cls) {v : Option Nat} (hv : pR sh d 3 97 a v = some d1) {index : Nat} (hlink : Cond.fieldLink y.cls index "ManyHands$Hand" "reach" "LManyHands$Reach;" ∈ gtb) (hdg : decode cc pc = .ok (.putfield index, 3)) (kk : ∀ (H1 : Heap) (locs1 : List Loc), HW A D cy sz sh d1 H1 → va_S A s.heap H1 locs1 → W p l e R s m args below meth c H1 locs1 cells slots Q (F0 m (pc + 3) ls rest)) : W p l e R s m args below meth c H locs cells slots Q (F0 m pc ls (va_rf v :: .ref a :: rest)) := by
  obtain ⟨hk, rfl⟩ := pR_s hv
  exact w_put C hw hS inX1 tyX1 tyX1_ok nmX1 rfl (by decide) hk 1 (by decide) hlink (fun _ h => h) (Or.inr ⟨rfl, hn, hcl⟩) (by cases v <;> rfl) (by cases v <;> rfl) (Nat.le_of_ble_eq_true rfl) (by simp [wF, uR, u3, dfi, dfl, dfr]) (fun cj b hb => wF_R d _ _ _ cj b hb) rfl hdg kk
theorem gt_98 (C : mx p s m args meth c y cc nL rt A D cy st) (hw : HW A D cy sz sh d H) {v : Option Nat} (hv : gR sh d 3 98 a = some v) {index : Nat} (hlink : Cond.fieldLink y.cls index "ManyHands$Hand" "own" "Ljava/util/ArrayList;" ∈ gtb) (hdg : decode cc pc = .ok (.getfield index, 3)) (kk : W p l e R s m args below meth c H locs cells slots Q (F0 m (pc + 3) ls (va_rf v :: rest))) : W p l e R s m args below meth c H locs cells slots Q (F0 m pc ls (.ref a :: rest)) := by
  obtain ⟨hk, rfl⟩ := gR_s hv
  exact w_get C hw inX1 rfl (by decide) hk 2 (by decide) hlink (fun _ h => h) rfl hdg kk
theorem pt_98 (C : mx p s m args meth c y cc nL rt A D cy st) (hw : HW A D cy sz sh d H) (hS : va_S A s.heap H locs) (hn : y.name = "<init>") (hcl : "ManyHands$Hand" = y.cls) {v : Option Nat} (hv : pR sh d 3 98 a v = some d1) {index : Nat} (hlink : Cond.fieldLink y.cls index "ManyHands$Hand" "own" "Ljava/util/ArrayList;" ∈ gtb) (hdg : decode cc pc = .ok (.putfield index, 3)) (kk : ∀ (H1 : Heap) (locs1 : List Loc), HW A D cy sz sh d1 H1 → va_S A s.heap H1 locs1 → W p l e R s m args below meth c H1 locs1 cells slots Q (F0 m (pc + 3) ls rest)) : W p l e R s m args below meth c H locs cells slots Q (F0 m pc ls (va_rf v :: .ref a :: rest)) := by
  obtain ⟨hk, rfl⟩ := pR_s hv
  exact w_put C hw hS inX1 tyX1 tyX1_ok nmX1 rfl (by decide) hk 2 (by decide) hlink (fun _ h => h) (Or.inr ⟨rfl, hn, hcl⟩) (by cases v <;> rfl) (by cases v <;> rfl) (Nat.le_of_ble_eq_true rfl) (by simp [wF, uR, u3, dfi, dfl, dfr]) (fun cj b hb => wF_R d _ _ _ cj b hb) rfl hdg kk
theorem gt_99 (C : mx p s m args meth c y cc nL rt A D cy st) (hw : HW A D cy sz sh d H) {v : Option Nat} (hv : gR sh d 3 99 a = some v) {index : Nat} (hlink : Cond.fieldLink y.cls index "ManyHands$Hand" "waiting" "Ljava/util/ArrayList;" ∈ gtb) (hdg : decode cc pc = .ok (.getfield index, 3)) (kk : W p l e R s m args below meth c H locs cells slots Q (F0 m (pc + 3) ls (va_rf v :: rest))) : W p l e R s m args below meth c H locs cells slots Q (F0 m pc ls (.ref a :: rest)) := by
  obtain ⟨hk, rfl⟩ := gR_s hv
  exact w_get C hw inX1 rfl (by decide) hk 3 (by decide) hlink (fun _ h => h) rfl hdg kk
theorem pt_99 (C : mx p s m args meth c y cc nL rt A D cy st) (hw : HW A D cy sz sh d H) (hS : va_S A s.heap H locs) (hn : y.name = "<init>") (hcl : "ManyHands$Hand" = y.cls) {v : Option Nat} (hv : pR sh d 3 99 a v = some d1) {index : Nat} (hlink : Cond.fieldLink y.cls index "ManyHands$Hand" "waiting" "Ljava/util/ArrayList;" ∈ gtb) (hdg : decode cc pc = .ok (.putfield index, 3)) (kk : ∀ (H1 : Heap) (locs1 : List Loc), HW A D cy sz sh d1 H1 → va_S A s.heap H1 locs1 → W p l e R s m args below meth c H1 locs1 cells slots Q (F0 m (pc + 3) ls rest)) : W p l e R s m args below meth c H locs cells slots Q (F0 m pc ls (va_rf v :: .ref a :: rest)) := by
  obtain ⟨hk, rfl⟩ := pR_s hv
  exact w_put C hw hS inX1 tyX1 tyX1_ok nmX1 rfl (by decide) hk 3 (by decide) hlink (fun _ h => h) (Or.inr ⟨rfl, hn, hcl⟩) (by cases v <;> rfl) (by cases v <;> rfl) (Nat.le_of_ble_eq_true rfl) (by simp [wF, uR, u3, dfi, dfl, dfr]) (fun cj b hb => wF_R d _ _ _ cj b hb) rfl hdg kk
theorem gt_100 (C : mx p s m args meth c y cc nL rt A D cy st) (hw : HW A D cy sz sh d H) {v : Option Nat} (hv : gR sh d 3 100 a = some v) {index : Nat} (hlink : Cond.fieldLink y.cls index "ManyHands$Hand" "ignored" "[Z" ∈ gtb) (hdg : decode cc pc = .ok (.getfield index, 3)) (kk : W p l e R s m args below meth c H locs cells slots Q (F0 m (pc + 3) ls (va_rf v :: rest))) : W p l e R s m args below meth c H locs cells slots Q (F0 m pc ls (.ref a :: rest)) := by
  obtain ⟨hk, rfl⟩ := gR_s hv
  exact w_get C hw inX1 rfl (by decide) hk 4 (by decide) hlink (fun _ h => h) rfl hdg kk
theorem pt_100 (C : mx p s m args meth c y cc nL rt A D cy st) (hw : HW A D cy sz sh d H) (hS : va_S A s.heap H locs) (hn : y.name = "<init>") (hcl : "ManyHands$Hand" = y.cls) {v : Option Nat} (hv : pR sh d 3 100 a v = some d1) {index : Nat} (hlink : Cond.fieldLink y.cls index "ManyHands$Hand" "ignored" "[Z" ∈ gtb) (hdg : decode cc pc = .ok (.putfield index, 3)) (kk : ∀ (H1 : Heap) (locs1 : List Loc), HW A D cy sz sh d1 H1 → va_S A s.heap H1 locs1 → W p l e R s m args below meth c H1 locs1 cells slots Q (F0 m (pc + 3) ls rest)) : W p l e R s m args below meth c H locs cells slots Q (F0 m pc ls (va_rf v :: .ref a :: rest)) := by
  obtain ⟨hk, rfl⟩ := pR_s hv
  exact w_put C hw hS inX1 tyX1 tyX1_ok nmX1 rfl (by decide) hk 4 (by decide) hlink (fun _ h => h) (Or.inr ⟨rfl, hn, hcl⟩) (by cases v <;> rfl) (by cases v <;> rfl) (Nat.le_of_ble_eq_true rfl) (by simp [wF, uR, u3, dfi, dfl, dfr]) (fun cj b hb => wF_R d _ _ _ cj b hb) rfl hdg kk
theorem gt_101 (C : mx p s m args meth c y cc nL rt A D cy st) (hw : HW A D cy sz sh d H) {v : Option Nat} (hv : gR sh d 3 101 a = some v) {index : Nat} (hlink : Cond.fieldLink y.cls index "ManyHands$Hand" "row" "LManyHands$LeafRow;" ∈ gtb) (hdg : decode cc pc = .ok (.getfield index, 3)) (kk : W p l e R s m args below meth c H locs cells slots Q (F0 m (pc + 3) ls (va_rf v :: rest))) : W p l e R s m args below meth c H locs cells slots Q (F0 m pc ls (.ref a :: rest)) := by
  obtain ⟨hk, rfl⟩ := gR_s hv
  exact w_get C hw inX1 rfl (by decide) hk 5 (by decide) hlink (fun _ h => h) rfl hdg kk
theorem pt_101 (C : mx p s m args meth c y cc nL rt A D cy st) (hw : HW A D cy sz sh d H) (hS : va_S A s.heap H locs) (hn : y.name = "<init>") (hcl : "ManyHands$Hand" = y.cls) {v : Option Nat} (hv : pR sh d 3 101 a v = some d1) {index : Nat} (hlink : Cond.fieldLink y.cls index "ManyHands$Hand" "row" "LManyHands$LeafRow;" ∈ gtb) (hdg : decode cc pc = .ok (.putfield index, 3)) (kk : ∀ (H1 : Heap) (locs1 : List Loc), HW A D cy sz sh d1 H1 → va_S A s.heap H1 locs1 → W p l e R s m args below meth c H1 locs1 cells slots Q (F0 m (pc + 3) ls rest)) : W p l e R s m args below meth c H locs cells slots Q (F0 m pc ls (va_rf v :: .ref a :: rest)) := by
  obtain ⟨hk, rfl⟩ := pR_s hv
  exact w_put C hw hS inX1 tyX1 tyX1_ok nmX1 rfl (by decide) hk 5 (by decide) hlink (fun _ h => h) (Or.inr ⟨rfl, hn, hcl⟩) (by cases v <;> rfl) (by cases v <;> rfl) (Nat.le_of_ble_eq_true rfl) (by simp [wF, uR, u3, dfi, dfl, dfr]) (fun cj b hb => wF_R d _ _ _ cj b hb) rfl hdg kk
theorem gt_102 (C : mx p s m args meth c y cc nL rt A D cy st) (hw : HW A D cy sz sh d H) {v : Int32} (hv : gI sh d 3 102 a = some v) {index : Nat} (hlink : Cond.fieldLink y.cls index "ManyHands$Hand" "greatestCount" "I" ∈ gtb) (hdg : decode cc pc = .ok (.getfield index, 3)) (kk : W p l e R s m args below meth c H locs cells slots Q (F0 m (pc + 3) ls (.int v :: rest))) : W p l e R s m args below meth c H locs cells slots Q (F0 m pc ls (.ref a :: rest)) := by
  obtain ⟨hk, rfl⟩ := gI_s hv
  exact w_get C hw inX1 rfl (by decide) hk 6 (by decide) hlink (fun _ h => h) rfl hdg kk
theorem pt_102 (C : mx p s m args meth c y cc nL rt A D cy st) (hw : HW A D cy sz sh d H) (hS : va_S A s.heap H locs) {v : Int32} (hv : pI sh d 3 102 a v = some d1) {index : Nat} (hlink : Cond.fieldLink y.cls index "ManyHands$Hand" "greatestCount" "I" ∈ gtb) (hdg : decode cc pc = .ok (.putfield index, 3)) (kk : ∀ (H1 : Heap) (locs1 : List Loc), HW A D cy sz sh d1 H1 → va_S A s.heap H1 locs1 → W p l e R s m args below meth c H1 locs1 cells slots Q (F0 m (pc + 3) ls rest)) : W p l e R s m args below meth c H locs cells slots Q (F0 m pc ls (.int v :: .ref a :: rest)) := by
  obtain ⟨hk, rfl⟩ := pI_s hv
  exact w_put C hw hS inX1 tyX1 tyX1_ok nmX1 rfl (by decide) hk 6 (by decide) hlink (fun _ h => h) (Or.inl rfl) rfl rfl (Nat.le_of_ble_eq_true rfl) (by simp [wF, uI, u3, dfi, dfl, dfr]) (fun cj b hb => wF_I d _ _ _ cj b hb) rfl hdg kk
theorem gt_128 (C : mx p s m args meth c y cc nL rt A D cy st) (hw : HW A D cy sz sh d H) {v : Option Nat} (hv : gR sh d 4 128 a = some v) {index : Nat} (hlink : Cond.fieldLink y.cls index "ManyHands$LeafRow" "numbers" "[J" ∈ gtb) (hdg : decode cc pc = .ok (.getfield index, 3)) (kk : W p l e R s m args below meth c H locs cells slots Q (F0 m (pc + 3) ls (va_rf v :: rest))) : W p l e R s m args below meth c H locs cells slots Q (F0 m pc ls (.ref a :: rest)) := by
  obtain ⟨hk, rfl⟩ := gR_s hv
  exact w_get C hw inX2 rfl (by decide) hk 0 (by decide) hlink (fun _ h => h) rfl hdg kk
theorem pt_128 (C : mx p s m args meth c y cc nL rt A D cy st) (hw : HW A D cy sz sh d H) (hS : va_S A s.heap H locs) (hn : y.name = "<init>") (hcl : "ManyHands$LeafRow" = y.cls) {v : Option Nat} (hv : pR sh d 4 128 a v = some d1) {index : Nat} (hlink : Cond.fieldLink y.cls index "ManyHands$LeafRow" "numbers" "[J" ∈ gtb) (hdg : decode cc pc = .ok (.putfield index, 3)) (kk : ∀ (H1 : Heap) (locs1 : List Loc), HW A D cy sz sh d1 H1 → va_S A s.heap H1 locs1 → W p l e R s m args below meth c H1 locs1 cells slots Q (F0 m (pc + 3) ls rest)) : W p l e R s m args below meth c H locs cells slots Q (F0 m pc ls (va_rf v :: .ref a :: rest)) := by
  obtain ⟨hk, rfl⟩ := pR_s hv
  exact w_put C hw hS inX2 tyX2 tyX2_ok nmX2 rfl (by decide) hk 0 (by decide) hlink (fun _ h => h) (Or.inr ⟨rfl, hn, hcl⟩) (by cases v <;> rfl) (by cases v <;> rfl) (Nat.le_of_ble_eq_true rfl) (by simp [wF, uR, u3, dfi, dfl, dfr]) (fun cj b hb => wF_R d _ _ _ cj b hb) rfl hdg kk
theorem gt_129 (C : mx p s m args meth c y cc nL rt A D cy st) (hw : HW A D cy sz sh d H) {v : Option Nat} (hv : gR sh d 4 129 a = some v) {index : Nat} (hlink : Cond.fieldLink y.cls index "ManyHands$LeafRow" "marks" "[I" ∈ gtb) (hdg : decode cc pc = .ok (.getfield index, 3)) (kk : W p l e R s m args below meth c H locs cells slots Q (F0 m (pc + 3) ls (va_rf v :: rest))) : W p l e R s m args below meth c H locs cells slots Q (F0 m pc ls (.ref a :: rest)) := by
  obtain ⟨hk, rfl⟩ := gR_s hv
  exact w_get C hw inX2 rfl (by decide) hk 1 (by decide) hlink (fun _ h => h) rfl hdg kk
theorem pt_129 (C : mx p s m args meth c y cc nL rt A D cy st) (hw : HW A D cy sz sh d H) (hS : va_S A s.heap H locs) (hn : y.name = "<init>") (hcl : "ManyHands$LeafRow" = y.cls) {v : Option Nat} (hv : pR sh d 4 129 a v = some d1) {index : Nat} (hlink : Cond.fieldLink y.cls index "ManyHands$LeafRow" "marks" "[I" ∈ gtb) (hdg : decode cc pc = .ok (.putfield index, 3)) (kk : ∀ (H1 : Heap) (locs1 : List Loc), HW A D cy sz sh d1 H1 → va_S A s.heap H1 locs1 → W p l e R s m args below meth c H1 locs1 cells slots Q (F0 m (pc + 3) ls rest)) : W p l e R s m args below meth c H locs cells slots Q (F0 m pc ls (va_rf v :: .ref a :: rest)) := by
  obtain ⟨hk, rfl⟩ := pR_s hv
  exact w_put C hw hS inX2 tyX2 tyX2_ok nmX2 rfl (by decide) hk 1 (by decide) hlink (fun _ h => h) (Or.inr ⟨rfl, hn, hcl⟩) (by cases v <;> rfl) (by cases v <;> rfl) (Nat.le_of_ble_eq_true rfl) (by simp [wF, uR, u3, dfi, dfl, dfr]) (fun cj b hb => wF_R d _ _ _ cj b hb) rfl hdg kk
theorem gt_130 (C : mx p s m args meth c y cc nL rt A D cy st) (hw : HW A D cy sz sh d H) {v : Int32} (hv : gI sh d 4 130 a = some v) {index : Nat} (hlink : Cond.fieldLink y.cls index "ManyHands$LeafRow" "size" "I" ∈ gtb) (hdg : decode cc pc = .ok (.getfield index, 3)) (kk : W p l e R s m args below meth c H locs cells slots Q (F0 m (pc + 3) ls (.int v :: rest))) : W p l e R s m args below meth c H locs cells slots Q (F0 m pc ls (.ref a :: rest)) := by
  obtain ⟨hk, rfl⟩ := gI_s hv
  exact w_get C hw inX2 rfl (by decide) hk 2 (by decide) hlink (fun _ h => h) rfl hdg kk
theorem pt_130 (C : mx p s m args meth c y cc nL rt A D cy st) (hw : HW A D cy sz sh d H) (hS : va_S A s.heap H locs) {v : Int32} (hv : pI sh d 4 130 a v = some d1) {index : Nat} (hlink : Cond.fieldLink y.cls index "ManyHands$LeafRow" "size" "I" ∈ gtb) (hdg : decode cc pc = .ok (.putfield index, 3)) (kk : ∀ (H1 : Heap) (locs1 : List Loc), HW A D cy sz sh d1 H1 → va_S A s.heap H1 locs1 → W p l e R s m args below meth c H1 locs1 cells slots Q (F0 m (pc + 3) ls rest)) : W p l e R s m args below meth c H locs cells slots Q (F0 m pc ls (.int v :: .ref a :: rest)) := by
  obtain ⟨hk, rfl⟩ := pI_s hv
  exact w_put C hw hS inX2 tyX2 tyX2_ok nmX2 rfl (by decide) hk 2 (by decide) hlink (fun _ h => h) (Or.inl rfl) rfl rfl (Nat.le_of_ble_eq_true rfl) (by simp [wF, uI, u3, dfi, dfl, dfr]) (fun cj b hb => wF_I d _ _ _ cj b hb) rfl hdg kk
theorem gt_160 (C : mx p s m args meth c y cc nL rt A D cy st) (hw : HW A D cy sz sh d H) {v : Int32} (hv : gI sh d 5 160 a = some v) {index : Nat} (hlink : Cond.fieldLink y.cls index "ManyHands$Page" "number" "I" ∈ gtb) (hdg : decode cc pc = .ok (.getfield index, 3)) (kk : W p l e R s m args below meth c H locs cells slots Q (F0 m (pc + 3) ls (.int v :: rest))) : W p l e R s m args below meth c H locs cells slots Q (F0 m pc ls (.ref a :: rest)) := by
  obtain ⟨hk, rfl⟩ := gI_s hv
  exact w_get C hw inX3 rfl (by decide) hk 0 (by decide) hlink (fun _ h => h) rfl hdg kk
theorem pt_160 (C : mx p s m args meth c y cc nL rt A D cy st) (hw : HW A D cy sz sh d H) (hS : va_S A s.heap H locs) (hn : y.name = "<init>") (hcl : "ManyHands$Page" = y.cls) {v : Int32} (hv : pI sh d 5 160 a v = some d1) {index : Nat} (hlink : Cond.fieldLink y.cls index "ManyHands$Page" "number" "I" ∈ gtb) (hdg : decode cc pc = .ok (.putfield index, 3)) (kk : ∀ (H1 : Heap) (locs1 : List Loc), HW A D cy sz sh d1 H1 → va_S A s.heap H1 locs1 → W p l e R s m args below meth c H1 locs1 cells slots Q (F0 m (pc + 3) ls rest)) : W p l e R s m args below meth c H locs cells slots Q (F0 m pc ls (.int v :: .ref a :: rest)) := by
  obtain ⟨hk, rfl⟩ := pI_s hv
  exact w_put C hw hS inX3 tyX3 tyX3_ok nmX3 rfl (by decide) hk 0 (by decide) hlink (fun _ h => h) (Or.inr ⟨rfl, hn, hcl⟩) rfl rfl (Nat.le_of_ble_eq_true rfl) (by simp [wF, uI, u3, dfi, dfl, dfr]) (fun cj b hb => wF_I d _ _ _ cj b hb) rfl hdg kk
theorem gt_161 (C : mx p s m args meth c y cc nL rt A D cy st) (hw : HW A D cy sz sh d H) {v : Int32} (hv : gI sh d 5 161 a = some v) {index : Nat} (hlink : Cond.fieldLink y.cls index "ManyHands$Page" "kind" "I" ∈ gtb) (hdg : decode cc pc = .ok (.getfield index, 3)) (kk : W p l e R s m args below meth c H locs cells slots Q (F0 m (pc + 3) ls (.int v :: rest))) : W p l e R s m args below meth c H locs cells slots Q (F0 m pc ls (.ref a :: rest)) := by
  obtain ⟨hk, rfl⟩ := gI_s hv
  exact w_get C hw inX3 rfl (by decide) hk 1 (by decide) hlink (fun _ h => h) rfl hdg kk
theorem pt_161 (C : mx p s m args meth c y cc nL rt A D cy st) (hw : HW A D cy sz sh d H) (hS : va_S A s.heap H locs) (hn : y.name = "<init>") (hcl : "ManyHands$Page" = y.cls) {v : Int32} (hv : pI sh d 5 161 a v = some d1) {index : Nat} (hlink : Cond.fieldLink y.cls index "ManyHands$Page" "kind" "I" ∈ gtb) (hdg : decode cc pc = .ok (.putfield index, 3)) (kk : ∀ (H1 : Heap) (locs1 : List Loc), HW A D cy sz sh d1 H1 → va_S A s.heap H1 locs1 → W p l e R s m args below meth c H1 locs1 cells slots Q (F0 m (pc + 3) ls rest)) : W p l e R s m args below meth c H locs cells slots Q (F0 m pc ls (.int v :: .ref a :: rest)) := by
  obtain ⟨hk, rfl⟩ := pI_s hv
  exact w_put C hw hS inX3 tyX3 tyX3_ok nmX3 rfl (by decide) hk 1 (by decide) hlink (fun _ h => h) (Or.inr ⟨rfl, hn, hcl⟩) rfl rfl (Nat.le_of_ble_eq_true rfl) (by simp [wF, uI, u3, dfi, dfl, dfr]) (fun cj b hb => wF_I d _ _ _ cj b hb) rfl hdg kk
theorem gt_162 (C : mx p s m args meth c y cc nL rt A D cy st) (hw : HW A D cy sz sh d H) {v : Option Nat} (hv : gR sh d 5 162 a = some v) {index : Nat} (hlink : Cond.fieldLink y.cls index "ManyHands$Page" "latest" "[LManyHands$Entry;" ∈ gtb) (hdg : decode cc pc = .ok (.getfield index, 3)) (kk : W p l e R s m args below meth c H locs cells slots Q (F0 m (pc + 3) ls (va_rf v :: rest))) : W p l e R s m args below meth c H locs cells slots Q (F0 m pc ls (.ref a :: rest)) := by
  obtain ⟨hk, rfl⟩ := gR_s hv
  exact w_get C hw inX3 rfl (by decide) hk 2 (by decide) hlink (fun _ h => h) rfl hdg kk
theorem pt_162 (C : mx p s m args meth c y cc nL rt A D cy st) (hw : HW A D cy sz sh d H) (hS : va_S A s.heap H locs) (hn : y.name = "<init>") (hcl : "ManyHands$Page" = y.cls) {v : Option Nat} (hv : pR sh d 5 162 a v = some d1) {index : Nat} (hlink : Cond.fieldLink y.cls index "ManyHands$Page" "latest" "[LManyHands$Entry;" ∈ gtb) (hdg : decode cc pc = .ok (.putfield index, 3)) (kk : ∀ (H1 : Heap) (locs1 : List Loc), HW A D cy sz sh d1 H1 → va_S A s.heap H1 locs1 → W p l e R s m args below meth c H1 locs1 cells slots Q (F0 m (pc + 3) ls rest)) : W p l e R s m args below meth c H locs cells slots Q (F0 m pc ls (va_rf v :: .ref a :: rest)) := by
  obtain ⟨hk, rfl⟩ := pR_s hv
  exact w_put C hw hS inX3 tyX3 tyX3_ok nmX3 rfl (by decide) hk 2 (by decide) hlink (fun _ h => h) (Or.inr ⟨rfl, hn, hcl⟩) (by cases v <;> rfl) (by cases v <;> rfl) (Nat.le_of_ble_eq_true rfl) (by simp [wF, uR, u3, dfi, dfl, dfr]) (fun cj b hb => wF_R d _ _ _ cj b hb) rfl hdg kk
theorem gt_163 (C : mx p s m args meth c y cc nL rt A D cy st) (hw : HW A D cy sz sh d H) {v : Option Nat} (hv : gR sh d 5 163 a = some v) {index : Nat} (hlink : Cond.fieldLink y.cls index "ManyHands$Page" "known" "LManyHands$Reach;" ∈ gtb) (hdg : decode cc pc = .ok (.getfield index, 3)) (kk : W p l e R s m args below meth c H locs cells slots Q (F0 m (pc + 3) ls (va_rf v :: rest))) : W p l e R s m args below meth c H locs cells slots Q (F0 m pc ls (.ref a :: rest)) := by
  obtain ⟨hk, rfl⟩ := gR_s hv
  exact w_get C hw inX3 rfl (by decide) hk 3 (by decide) hlink (fun _ h => h) rfl hdg kk
theorem pt_163 (C : mx p s m args meth c y cc nL rt A D cy st) (hw : HW A D cy sz sh d H) (hS : va_S A s.heap H locs) (hn : y.name = "<init>") (hcl : "ManyHands$Page" = y.cls) {v : Option Nat} (hv : pR sh d 5 163 a v = some d1) {index : Nat} (hlink : Cond.fieldLink y.cls index "ManyHands$Page" "known" "LManyHands$Reach;" ∈ gtb) (hdg : decode cc pc = .ok (.putfield index, 3)) (kk : ∀ (H1 : Heap) (locs1 : List Loc), HW A D cy sz sh d1 H1 → va_S A s.heap H1 locs1 → W p l e R s m args below meth c H1 locs1 cells slots Q (F0 m (pc + 3) ls rest)) : W p l e R s m args below meth c H locs cells slots Q (F0 m pc ls (va_rf v :: .ref a :: rest)) := by
  obtain ⟨hk, rfl⟩ := pR_s hv
  exact w_put C hw hS inX3 tyX3 tyX3_ok nmX3 rfl (by decide) hk 3 (by decide) hlink (fun _ h => h) (Or.inr ⟨rfl, hn, hcl⟩) (by cases v <;> rfl) (by cases v <;> rfl) (Nat.le_of_ble_eq_true rfl) (by simp [wF, uR, u3, dfi, dfl, dfr]) (fun cj b hb => wF_R d _ _ _ cj b hb) rfl hdg kk
theorem gt_192 (C : mx p s m args meth c y cc nL rt A D cy st) (hw : HW A D cy sz sh d H) {v : Option Nat} (hv : gR sh d 6 192 a = some v) {index : Nat} (hlink : Cond.fieldLink y.cls index "ManyHands$Reach" "upTo" "[I" ∈ gtb) (hdg : decode cc pc = .ok (.getfield index, 3)) (kk : W p l e R s m args below meth c H locs cells slots Q (F0 m (pc + 3) ls (va_rf v :: rest))) : W p l e R s m args below meth c H locs cells slots Q (F0 m pc ls (.ref a :: rest)) := by
  obtain ⟨hk, rfl⟩ := gR_s hv
  exact w_get C hw inX4 rfl (by decide) hk 0 (by decide) hlink (fun _ h => h) rfl hdg kk
theorem pt_192 (C : mx p s m args meth c y cc nL rt A D cy st) (hw : HW A D cy sz sh d H) (hS : va_S A s.heap H locs) (hn : y.name = "<init>") (hcl : "ManyHands$Reach" = y.cls) {v : Option Nat} (hv : pR sh d 6 192 a v = some d1) {index : Nat} (hlink : Cond.fieldLink y.cls index "ManyHands$Reach" "upTo" "[I" ∈ gtb) (hdg : decode cc pc = .ok (.putfield index, 3)) (kk : ∀ (H1 : Heap) (locs1 : List Loc), HW A D cy sz sh d1 H1 → va_S A s.heap H1 locs1 → W p l e R s m args below meth c H1 locs1 cells slots Q (F0 m (pc + 3) ls rest)) : W p l e R s m args below meth c H locs cells slots Q (F0 m pc ls (va_rf v :: .ref a :: rest)) := by
  obtain ⟨hk, rfl⟩ := pR_s hv
  exact w_put C hw hS inX4 tyX4 tyX4_ok nmX4 rfl (by decide) hk 0 (by decide) hlink (fun _ h => h) (Or.inr ⟨rfl, hn, hcl⟩) (by cases v <;> rfl) (by cases v <;> rfl) (Nat.le_of_ble_eq_true rfl) (by simp [wF, uR, u3, dfi, dfl, dfr]) (fun cj b hb => wF_R d _ _ _ cj b hb) rfl hdg kk
theorem gt_224 (C : mx p s m args meth c y cc nL rt A D cy st) (hw : HW A D cy sz sh d H) {v : Option Nat} (hv : gR sh d 7 224 a = some v) {index : Nat} (hlink : Cond.fieldLink y.cls index "ManyHands$Telling" "numbers" "[J" ∈ gtb) (hdg : decode cc pc = .ok (.getfield index, 3)) (kk : W p l e R s m args below meth c H locs cells slots Q (F0 m (pc + 3) ls (va_rf v :: rest))) : W p l e R s m args below meth c H locs cells slots Q (F0 m pc ls (.ref a :: rest)) := by
  obtain ⟨hk, rfl⟩ := gR_s hv
  exact w_get C hw inX5 rfl (by decide) hk 0 (by decide) hlink (fun _ h => h) rfl hdg kk
theorem pt_224 (C : mx p s m args meth c y cc nL rt A D cy st) (hw : HW A D cy sz sh d H) (hS : va_S A s.heap H locs) (hn : y.name = "<init>") (hcl : "ManyHands$Telling" = y.cls) {v : Option Nat} (hv : pR sh d 7 224 a v = some d1) {index : Nat} (hlink : Cond.fieldLink y.cls index "ManyHands$Telling" "numbers" "[J" ∈ gtb) (hdg : decode cc pc = .ok (.putfield index, 3)) (kk : ∀ (H1 : Heap) (locs1 : List Loc), HW A D cy sz sh d1 H1 → va_S A s.heap H1 locs1 → W p l e R s m args below meth c H1 locs1 cells slots Q (F0 m (pc + 3) ls rest)) : W p l e R s m args below meth c H locs cells slots Q (F0 m pc ls (va_rf v :: .ref a :: rest)) := by
  obtain ⟨hk, rfl⟩ := pR_s hv
  exact w_put C hw hS inX5 tyX5 tyX5_ok nmX5 rfl (by decide) hk 0 (by decide) hlink (fun _ h => h) (Or.inr ⟨rfl, hn, hcl⟩) (by cases v <;> rfl) (by cases v <;> rfl) (Nat.le_of_ble_eq_true rfl) (by simp [wF, uR, u3, dfi, dfl, dfr]) (fun cj b hb => wF_R d _ _ _ cj b hb) rfl hdg kk
theorem gt_225 (C : mx p s m args meth c y cc nL rt A D cy st) (hw : HW A D cy sz sh d H) {v : Int32} (hv : gI sh d 7 225 a = some v) {index : Nat} (hlink : Cond.fieldLink y.cls index "ManyHands$Telling" "size" "I" ∈ gtb) (hdg : decode cc pc = .ok (.getfield index, 3)) (kk : W p l e R s m args below meth c H locs cells slots Q (F0 m (pc + 3) ls (.int v :: rest))) : W p l e R s m args below meth c H locs cells slots Q (F0 m pc ls (.ref a :: rest)) := by
  obtain ⟨hk, rfl⟩ := gI_s hv
  exact w_get C hw inX5 rfl (by decide) hk 1 (by decide) hlink (fun _ h => h) rfl hdg kk
theorem pt_225 (C : mx p s m args meth c y cc nL rt A D cy st) (hw : HW A D cy sz sh d H) (hS : va_S A s.heap H locs) {v : Int32} (hv : pI sh d 7 225 a v = some d1) {index : Nat} (hlink : Cond.fieldLink y.cls index "ManyHands$Telling" "size" "I" ∈ gtb) (hdg : decode cc pc = .ok (.putfield index, 3)) (kk : ∀ (H1 : Heap) (locs1 : List Loc), HW A D cy sz sh d1 H1 → va_S A s.heap H1 locs1 → W p l e R s m args below meth c H1 locs1 cells slots Q (F0 m (pc + 3) ls rest)) : W p l e R s m args below meth c H locs cells slots Q (F0 m pc ls (.int v :: .ref a :: rest)) := by
  obtain ⟨hk, rfl⟩ := pI_s hv
  exact w_put C hw hS inX5 tyX5 tyX5_ok nmX5 rfl (by decide) hk 1 (by decide) hlink (fun _ h => h) (Or.inl rfl) rfl rfl (Nat.le_of_ble_eq_true rfl) (by simp [wF, uI, u3, dfi, dfl, dfr]) (fun cj b hb => wF_I d _ _ _ cj b hb) rfl hdg kk
theorem gt_256 (C : mx p s m args meth c y cc nL rt A D cy st) (hw : HW A D cy sz sh d H) {v : Option Nat} (hv : gR sh d 8 256 a = some v) {index : Nat} (hlink : Cond.fieldLink y.cls index "ManyHands" "hands" "[LManyHands$Hand;" ∈ gtb) (hdg : decode cc pc = .ok (.getfield index, 3)) (kk : W p l e R s m args below meth c H locs cells slots Q (F0 m (pc + 3) ls (va_rf v :: rest))) : W p l e R s m args below meth c H locs cells slots Q (F0 m pc ls (.ref a :: rest)) := by
  obtain ⟨hk, rfl⟩ := gR_s hv
  exact w_get C hw inX6 rfl (by decide) hk 0 (by decide) hlink (fun _ h => h) rfl hdg kk
theorem pt_256 (C : mx p s m args meth c y cc nL rt A D cy st) (hw : HW A D cy sz sh d H) (hS : va_S A s.heap H locs) (hn : y.name = "<init>") (hcl : "ManyHands" = y.cls) {v : Option Nat} (hv : pR sh d 8 256 a v = some d1) {index : Nat} (hlink : Cond.fieldLink y.cls index "ManyHands" "hands" "[LManyHands$Hand;" ∈ gtb) (hdg : decode cc pc = .ok (.putfield index, 3)) (kk : ∀ (H1 : Heap) (locs1 : List Loc), HW A D cy sz sh d1 H1 → va_S A s.heap H1 locs1 → W p l e R s m args below meth c H1 locs1 cells slots Q (F0 m (pc + 3) ls rest)) : W p l e R s m args below meth c H locs cells slots Q (F0 m pc ls (va_rf v :: .ref a :: rest)) := by
  obtain ⟨hk, rfl⟩ := pR_s hv
  exact w_put C hw hS inX6 tyX6 tyX6_ok nmX6 rfl (by decide) hk 0 (by decide) hlink (fun _ h => h) (Or.inr ⟨rfl, hn, hcl⟩) (by cases v <;> rfl) (by cases v <;> rfl) (Nat.le_of_ble_eq_true rfl) (by simp [wF, uR, u3, dfi, dfl, dfr]) (fun cj b hb => wF_R d _ _ _ cj b hb) rfl hdg kk
theorem gt_257 (C : mx p s m args meth c y cc nL rt A D cy st) (hw : HW A D cy sz sh d H) {v : Option Nat} (hv : gR sh d 8 257 a = some v) {index : Nat} (hlink : Cond.fieldLink y.cls index "ManyHands" "pages" "[LManyHands$Page;" ∈ gtb) (hdg : decode cc pc = .ok (.getfield index, 3)) (kk : W p l e R s m args below meth c H locs cells slots Q (F0 m (pc + 3) ls (va_rf v :: rest))) : W p l e R s m args below meth c H locs cells slots Q (F0 m pc ls (.ref a :: rest)) := by
  obtain ⟨hk, rfl⟩ := gR_s hv
  exact w_get C hw inX6 rfl (by decide) hk 1 (by decide) hlink (fun _ h => h) rfl hdg kk
theorem pt_257 (C : mx p s m args meth c y cc nL rt A D cy st) (hw : HW A D cy sz sh d H) (hS : va_S A s.heap H locs) (hn : y.name = "<init>") (hcl : "ManyHands" = y.cls) {v : Option Nat} (hv : pR sh d 8 257 a v = some d1) {index : Nat} (hlink : Cond.fieldLink y.cls index "ManyHands" "pages" "[LManyHands$Page;" ∈ gtb) (hdg : decode cc pc = .ok (.putfield index, 3)) (kk : ∀ (H1 : Heap) (locs1 : List Loc), HW A D cy sz sh d1 H1 → va_S A s.heap H1 locs1 → W p l e R s m args below meth c H1 locs1 cells slots Q (F0 m (pc + 3) ls rest)) : W p l e R s m args below meth c H locs cells slots Q (F0 m pc ls (va_rf v :: .ref a :: rest)) := by
  obtain ⟨hk, rfl⟩ := pR_s hv
  exact w_put C hw hS inX6 tyX6 tyX6_ok nmX6 rfl (by decide) hk 1 (by decide) hlink (fun _ h => h) (Or.inr ⟨rfl, hn, hcl⟩) (by cases v <;> rfl) (by cases v <;> rfl) (Nat.le_of_ble_eq_true rfl) (by simp [wF, uR, u3, dfi, dfl, dfr]) (fun cj b hb => wF_R d _ _ _ cj b hb) rfl hdg kk
theorem gt_258 (C : mx p s m args meth c y cc nL rt A D cy st) (hw : HW A D cy sz sh d H) {v : Option Nat} (hv : gR sh d 8 258 a = some v) {index : Nat} (hlink : Cond.fieldLink y.cls index "ManyHands" "entries" "Ljava/util/ArrayList;" ∈ gtb) (hdg : decode cc pc = .ok (.getfield index, 3)) (kk : W p l e R s m args below meth c H locs cells slots Q (F0 m (pc + 3) ls (va_rf v :: rest))) : W p l e R s m args below meth c H locs cells slots Q (F0 m pc ls (.ref a :: rest)) := by
  obtain ⟨hk, rfl⟩ := gR_s hv
  exact w_get C hw inX6 rfl (by decide) hk 2 (by decide) hlink (fun _ h => h) rfl hdg kk
theorem pt_258 (C : mx p s m args meth c y cc nL rt A D cy st) (hw : HW A D cy sz sh d H) (hS : va_S A s.heap H locs) (hn : y.name = "<init>") (hcl : "ManyHands" = y.cls) {v : Option Nat} (hv : pR sh d 8 258 a v = some d1) {index : Nat} (hlink : Cond.fieldLink y.cls index "ManyHands" "entries" "Ljava/util/ArrayList;" ∈ gtb) (hdg : decode cc pc = .ok (.putfield index, 3)) (kk : ∀ (H1 : Heap) (locs1 : List Loc), HW A D cy sz sh d1 H1 → va_S A s.heap H1 locs1 → W p l e R s m args below meth c H1 locs1 cells slots Q (F0 m (pc + 3) ls rest)) : W p l e R s m args below meth c H locs cells slots Q (F0 m pc ls (va_rf v :: .ref a :: rest)) := by
  obtain ⟨hk, rfl⟩ := pR_s hv
  exact w_put C hw hS inX6 tyX6 tyX6_ok nmX6 rfl (by decide) hk 2 (by decide) hlink (fun _ h => h) (Or.inr ⟨rfl, hn, hcl⟩) (by cases v <;> rfl) (by cases v <;> rfl) (Nat.le_of_ble_eq_true rfl) (by simp [wF, uR, u3, dfi, dfl, dfr]) (fun cj b hb => wF_R d _ _ _ cj b hb) rfl hdg kk
theorem gt_259 (C : mx p s m args meth c y cc nL rt A D cy st) (hw : HW A D cy sz sh d H) {v : Option Nat} (hv : gR sh d 8 259 a = some v) {index : Nat} (hlink : Cond.fieldLink y.cls index "ManyHands" "timesFound" "[I" ∈ gtb) (hdg : decode cc pc = .ok (.getfield index, 3)) (kk : W p l e R s m args below meth c H locs cells slots Q (F0 m (pc + 3) ls (va_rf v :: rest))) : W p l e R s m args below meth c H locs cells slots Q (F0 m pc ls (.ref a :: rest)) := by
  obtain ⟨hk, rfl⟩ := gR_s hv
  exact w_get C hw inX6 rfl (by decide) hk 3 (by decide) hlink (fun _ h => h) rfl hdg kk
theorem pt_259 (C : mx p s m args meth c y cc nL rt A D cy st) (hw : HW A D cy sz sh d H) (hS : va_S A s.heap H locs) (hn : y.name = "<init>") (hcl : "ManyHands" = y.cls) {v : Option Nat} (hv : pR sh d 8 259 a v = some d1) {index : Nat} (hlink : Cond.fieldLink y.cls index "ManyHands" "timesFound" "[I" ∈ gtb) (hdg : decode cc pc = .ok (.putfield index, 3)) (kk : ∀ (H1 : Heap) (locs1 : List Loc), HW A D cy sz sh d1 H1 → va_S A s.heap H1 locs1 → W p l e R s m args below meth c H1 locs1 cells slots Q (F0 m (pc + 3) ls rest)) : W p l e R s m args below meth c H locs cells slots Q (F0 m pc ls (va_rf v :: .ref a :: rest)) := by
  obtain ⟨hk, rfl⟩ := pR_s hv
  exact w_put C hw hS inX6 tyX6 tyX6_ok nmX6 rfl (by decide) hk 3 (by decide) hlink (fun _ h => h) (Or.inr ⟨rfl, hn, hcl⟩) (by cases v <;> rfl) (by cases v <;> rfl) (Nat.le_of_ble_eq_true rfl) (by simp [wF, uR, u3, dfi, dfl, dfr]) (fun cj b hb => wF_R d _ _ _ cj b hb) rfl hdg kk
theorem gt_260 (C : mx p s m args meth c y cc nL rt A D cy st) (hw : HW A D cy sz sh d H) {v : Option Nat} (hv : gR sh d 8 260 a = some v) {index : Nat} (hlink : Cond.fieldLink y.cls index "ManyHands" "telling" "LManyHands$Telling;" ∈ gtb) (hdg : decode cc pc = .ok (.getfield index, 3)) (kk : W p l e R s m args below meth c H locs cells slots Q (F0 m (pc + 3) ls (va_rf v :: rest))) : W p l e R s m args below meth c H locs cells slots Q (F0 m pc ls (.ref a :: rest)) := by
  obtain ⟨hk, rfl⟩ := gR_s hv
  exact w_get C hw inX6 rfl (by decide) hk 4 (by decide) hlink (fun _ h => h) rfl hdg kk
theorem pt_260 (C : mx p s m args meth c y cc nL rt A D cy st) (hw : HW A D cy sz sh d H) (hS : va_S A s.heap H locs) (hn : y.name = "<init>") (hcl : "ManyHands" = y.cls) {v : Option Nat} (hv : pR sh d 8 260 a v = some d1) {index : Nat} (hlink : Cond.fieldLink y.cls index "ManyHands" "telling" "LManyHands$Telling;" ∈ gtb) (hdg : decode cc pc = .ok (.putfield index, 3)) (kk : ∀ (H1 : Heap) (locs1 : List Loc), HW A D cy sz sh d1 H1 → va_S A s.heap H1 locs1 → W p l e R s m args below meth c H1 locs1 cells slots Q (F0 m (pc + 3) ls rest)) : W p l e R s m args below meth c H locs cells slots Q (F0 m pc ls (va_rf v :: .ref a :: rest)) := by
  obtain ⟨hk, rfl⟩ := pR_s hv
  exact w_put C hw hS inX6 tyX6 tyX6_ok nmX6 rfl (by decide) hk 4 (by decide) hlink (fun _ h => h) (Or.inr ⟨rfl, hn, hcl⟩) (by cases v <;> rfl) (by cases v <;> rfl) (Nat.le_of_ble_eq_true rfl) (by simp [wF, uR, u3, dfi, dfl, dfr]) (fun cj b hb => wF_R d _ _ _ cj b hb) rfl hdg kk
theorem gt_261 (C : mx p s m args meth c y cc nL rt A D cy st) (hw : HW A D cy sz sh d H) {v : Option Nat} (hv : gR sh d 8 261 a = some v) {index : Nat} (hlink : Cond.fieldLink y.cls index "ManyHands" "otherTelling" "LManyHands$Telling;" ∈ gtb) (hdg : decode cc pc = .ok (.getfield index, 3)) (kk : W p l e R s m args below meth c H locs cells slots Q (F0 m (pc + 3) ls (va_rf v :: rest))) : W p l e R s m args below meth c H locs cells slots Q (F0 m pc ls (.ref a :: rest)) := by
  obtain ⟨hk, rfl⟩ := gR_s hv
  exact w_get C hw inX6 rfl (by decide) hk 5 (by decide) hlink (fun _ h => h) rfl hdg kk
theorem pt_261 (C : mx p s m args meth c y cc nL rt A D cy st) (hw : HW A D cy sz sh d H) (hS : va_S A s.heap H locs) (hn : y.name = "<init>") (hcl : "ManyHands" = y.cls) {v : Option Nat} (hv : pR sh d 8 261 a v = some d1) {index : Nat} (hlink : Cond.fieldLink y.cls index "ManyHands" "otherTelling" "LManyHands$Telling;" ∈ gtb) (hdg : decode cc pc = .ok (.putfield index, 3)) (kk : ∀ (H1 : Heap) (locs1 : List Loc), HW A D cy sz sh d1 H1 → va_S A s.heap H1 locs1 → W p l e R s m args below meth c H1 locs1 cells slots Q (F0 m (pc + 3) ls rest)) : W p l e R s m args below meth c H locs cells slots Q (F0 m pc ls (va_rf v :: .ref a :: rest)) := by
  obtain ⟨hk, rfl⟩ := pR_s hv
  exact w_put C hw hS inX6 tyX6 tyX6_ok nmX6 rfl (by decide) hk 5 (by decide) hlink (fun _ h => h) (Or.inr ⟨rfl, hn, hcl⟩) (by cases v <;> rfl) (by cases v <;> rfl) (Nat.le_of_ble_eq_true rfl) (by simp [wF, uR, u3, dfi, dfl, dfr]) (fun cj b hb => wF_R d _ _ _ cj b hb) rfl hdg kk
theorem gt_262 (C : mx p s m args meth c y cc nL rt A D cy st) (hw : HW A D cy sz sh d H) {v : Int32} (hv : gI sh d 8 262 a = some v) {index : Nat} (hlink : Cond.fieldLink y.cls index "ManyHands" "handCount" "I" ∈ gtb) (hdg : decode cc pc = .ok (.getfield index, 3)) (kk : W p l e R s m args below meth c H locs cells slots Q (F0 m (pc + 3) ls (.int v :: rest))) : W p l e R s m args below meth c H locs cells slots Q (F0 m pc ls (.ref a :: rest)) := by
  obtain ⟨hk, rfl⟩ := gI_s hv
  exact w_get C hw inX6 rfl (by decide) hk 6 (by decide) hlink (fun _ h => h) rfl hdg kk
theorem pt_262 (C : mx p s m args meth c y cc nL rt A D cy st) (hw : HW A D cy sz sh d H) (hS : va_S A s.heap H locs) {v : Int32} (hv : pI sh d 8 262 a v = some d1) {index : Nat} (hlink : Cond.fieldLink y.cls index "ManyHands" "handCount" "I" ∈ gtb) (hdg : decode cc pc = .ok (.putfield index, 3)) (kk : ∀ (H1 : Heap) (locs1 : List Loc), HW A D cy sz sh d1 H1 → va_S A s.heap H1 locs1 → W p l e R s m args below meth c H1 locs1 cells slots Q (F0 m (pc + 3) ls rest)) : W p l e R s m args below meth c H locs cells slots Q (F0 m pc ls (.int v :: .ref a :: rest)) := by
  obtain ⟨hk, rfl⟩ := pI_s hv
  exact w_put C hw hS inX6 tyX6 tyX6_ok nmX6 rfl (by decide) hk 6 (by decide) hlink (fun _ h => h) (Or.inl rfl) rfl rfl (Nat.le_of_ble_eq_true rfl) (by simp [wF, uI, u3, dfi, dfl, dfr]) (fun cj b hb => wF_I d _ _ _ cj b hb) rfl hdg kk
theorem gt_263 (C : mx p s m args meth c y cc nL rt A D cy st) (hw : HW A D cy sz sh d H) {v : Int32} (hv : gI sh d 8 263 a = some v) {index : Nat} (hlink : Cond.fieldLink y.cls index "ManyHands" "pageCount" "I" ∈ gtb) (hdg : decode cc pc = .ok (.getfield index, 3)) (kk : W p l e R s m args below meth c H locs cells slots Q (F0 m (pc + 3) ls (.int v :: rest))) : W p l e R s m args below meth c H locs cells slots Q (F0 m pc ls (.ref a :: rest)) := by
  obtain ⟨hk, rfl⟩ := gI_s hv
  exact w_get C hw inX6 rfl (by decide) hk 7 (by decide) hlink (fun _ h => h) rfl hdg kk
theorem pt_263 (C : mx p s m args meth c y cc nL rt A D cy st) (hw : HW A D cy sz sh d H) (hS : va_S A s.heap H locs) {v : Int32} (hv : pI sh d 8 263 a v = some d1) {index : Nat} (hlink : Cond.fieldLink y.cls index "ManyHands" "pageCount" "I" ∈ gtb) (hdg : decode cc pc = .ok (.putfield index, 3)) (kk : ∀ (H1 : Heap) (locs1 : List Loc), HW A D cy sz sh d1 H1 → va_S A s.heap H1 locs1 → W p l e R s m args below meth c H1 locs1 cells slots Q (F0 m (pc + 3) ls rest)) : W p l e R s m args below meth c H locs cells slots Q (F0 m pc ls (.int v :: .ref a :: rest)) := by
  obtain ⟨hk, rfl⟩ := pI_s hv
  exact w_put C hw hS inX6 tyX6 tyX6_ok nmX6 rfl (by decide) hk 7 (by decide) hlink (fun _ h => h) (Or.inl rfl) rfl rfl (Nat.le_of_ble_eq_true rfl) (by simp [wF, uI, u3, dfi, dfl, dfr]) (fun cj b hb => wF_I d _ _ _ cj b hb) rfl hdg kk
theorem gt_264 (C : mx p s m args meth c y cc nL rt A D cy st) (hw : HW A D cy sz sh d H) {v : Int32} (hv : gI sh d 8 264 a = some v) {index : Nat} (hlink : Cond.fieldLink y.cls index "ManyHands" "latestFinding" "I" ∈ gtb) (hdg : decode cc pc = .ok (.getfield index, 3)) (kk : W p l e R s m args below meth c H locs cells slots Q (F0 m (pc + 3) ls (.int v :: rest))) : W p l e R s m args below meth c H locs cells slots Q (F0 m pc ls (.ref a :: rest)) := by
  obtain ⟨hk, rfl⟩ := gI_s hv
  exact w_get C hw inX6 rfl (by decide) hk 8 (by decide) hlink (fun _ h => h) rfl hdg kk
theorem pt_264 (C : mx p s m args meth c y cc nL rt A D cy st) (hw : HW A D cy sz sh d H) (hS : va_S A s.heap H locs) {v : Int32} (hv : pI sh d 8 264 a v = some d1) {index : Nat} (hlink : Cond.fieldLink y.cls index "ManyHands" "latestFinding" "I" ∈ gtb) (hdg : decode cc pc = .ok (.putfield index, 3)) (kk : ∀ (H1 : Heap) (locs1 : List Loc), HW A D cy sz sh d1 H1 → va_S A s.heap H1 locs1 → W p l e R s m args below meth c H1 locs1 cells slots Q (F0 m (pc + 3) ls rest)) : W p l e R s m args below meth c H locs cells slots Q (F0 m pc ls (.int v :: .ref a :: rest)) := by
  obtain ⟨hk, rfl⟩ := pI_s hv
  exact w_put C hw hS inX6 tyX6 tyX6_ok nmX6 rfl (by decide) hk 8 (by decide) hlink (fun _ h => h) (Or.inl rfl) rfl rfl (Nat.le_of_ble_eq_true rfl) (by simp [wF, uI, u3, dfi, dfl, dfr]) (fun cj b hb => wF_I d _ _ _ cj b hb) rfl hdg kk
theorem gt_265 (C : mx p s m args meth c y cc nL rt A D cy st) (hw : HW A D cy sz sh d H) {v : Int64} (hv : gL sh d 8 265 a = some v) {index : Nat} (hlink : Cond.fieldLink y.cls index "ManyHands" "latestTold" "J" ∈ gtb) (hdg : decode cc pc = .ok (.getfield index, 3)) (kk : W p l e R s m args below meth c H locs cells slots Q (F0 m (pc + 3) ls (.long v :: rest))) : W p l e R s m args below meth c H locs cells slots Q (F0 m pc ls (.ref a :: rest)) := by
  obtain ⟨hk, rfl⟩ := gL_s hv
  exact w_get C hw inX6 rfl (by decide) hk 9 (by decide) hlink (fun _ h => h) rfl hdg kk
theorem pt_265 (C : mx p s m args meth c y cc nL rt A D cy st) (hw : HW A D cy sz sh d H) (hS : va_S A s.heap H locs) {v : Int64} (hv : pL sh d 8 265 a v = some d1) {index : Nat} (hlink : Cond.fieldLink y.cls index "ManyHands" "latestTold" "J" ∈ gtb) (hdg : decode cc pc = .ok (.putfield index, 3)) (kk : ∀ (H1 : Heap) (locs1 : List Loc), HW A D cy sz sh d1 H1 → va_S A s.heap H1 locs1 → W p l e R s m args below meth c H1 locs1 cells slots Q (F0 m (pc + 3) ls rest)) : W p l e R s m args below meth c H locs cells slots Q (F0 m pc ls (.long v :: .ref a :: rest)) := by
  obtain ⟨hk, rfl⟩ := pL_s hv
  exact w_put C hw hS inX6 tyX6 tyX6_ok nmX6 rfl (by decide) hk 9 (by decide) hlink (fun _ h => h) (Or.inl rfl) rfl rfl (Nat.le_of_ble_eq_true rfl) (by simp [wF, uL, u3, dfi, dfl, dfr]) (fun cj b hb => wF_L d _ _ _ cj b hb) rfl hdg kk
theorem gt_288 (C : mx p s m args meth c y cc nL rt A D cy st) (hw : HW A D cy sz sh d H) {v : Int32} (hv : gI sh d 9 288 a = some v) {index : Nat} (hlink : Cond.fieldLink y.cls index "ManyHandsModel" "latest" "I" ∈ gtb) (hdg : decode cc pc = .ok (.getfield index, 3)) (kk : W p l e R s m args below meth c H locs cells slots Q (F0 m (pc + 3) ls (.int v :: rest))) : W p l e R s m args below meth c H locs cells slots Q (F0 m pc ls (.ref a :: rest)) := by
  obtain ⟨hk, rfl⟩ := gI_s hv
  exact w_get C hw inX7 rfl (by decide) hk 0 (by decide) hlink (fun _ h => h) rfl hdg kk
theorem pt_288 (C : mx p s m args meth c y cc nL rt A D cy st) (hw : HW A D cy sz sh d H) (hS : va_S A s.heap H locs) {v : Int32} (hv : pI sh d 9 288 a v = some d1) {index : Nat} (hlink : Cond.fieldLink y.cls index "ManyHandsModel" "latest" "I" ∈ gtb) (hdg : decode cc pc = .ok (.putfield index, 3)) (kk : ∀ (H1 : Heap) (locs1 : List Loc), HW A D cy sz sh d1 H1 → va_S A s.heap H1 locs1 → W p l e R s m args below meth c H1 locs1 cells slots Q (F0 m (pc + 3) ls rest)) : W p l e R s m args below meth c H locs cells slots Q (F0 m pc ls (.int v :: .ref a :: rest)) := by
  obtain ⟨hk, rfl⟩ := pI_s hv
  exact w_put C hw hS inX7 tyX7 tyX7_ok nmX7 rfl (by decide) hk 0 (by decide) hlink (fun _ h => h) (Or.inl rfl) rfl rfl (Nat.le_of_ble_eq_true rfl) (by simp [wF, uI, u3, dfi, dfl, dfr]) (fun cj b hb => wF_I d _ _ _ cj b hb) rfl hdg kk
theorem gt_289 (C : mx p s m args meth c y cc nL rt A D cy st) (hw : HW A D cy sz sh d H) {v : Option Nat} (hv : gR sh d 9 289 a = some v) {index : Nat} (hlink : Cond.fieldLink y.cls index "ManyHandsModel" "came" "[I" ∈ gtb) (hdg : decode cc pc = .ok (.getfield index, 3)) (kk : W p l e R s m args below meth c H locs cells slots Q (F0 m (pc + 3) ls (va_rf v :: rest))) : W p l e R s m args below meth c H locs cells slots Q (F0 m pc ls (.ref a :: rest)) := by
  obtain ⟨hk, rfl⟩ := gR_s hv
  exact w_get C hw inX7 rfl (by decide) hk 1 (by decide) hlink (fun _ h => h) rfl hdg kk
theorem pt_289 (C : mx p s m args meth c y cc nL rt A D cy st) (hw : HW A D cy sz sh d H) (hS : va_S A s.heap H locs) (hn : y.name = "<init>") (hcl : "ManyHandsModel" = y.cls) {v : Option Nat} (hv : pR sh d 9 289 a v = some d1) {index : Nat} (hlink : Cond.fieldLink y.cls index "ManyHandsModel" "came" "[I" ∈ gtb) (hdg : decode cc pc = .ok (.putfield index, 3)) (kk : ∀ (H1 : Heap) (locs1 : List Loc), HW A D cy sz sh d1 H1 → va_S A s.heap H1 locs1 → W p l e R s m args below meth c H1 locs1 cells slots Q (F0 m (pc + 3) ls rest)) : W p l e R s m args below meth c H locs cells slots Q (F0 m pc ls (va_rf v :: .ref a :: rest)) := by
  obtain ⟨hk, rfl⟩ := pR_s hv
  exact w_put C hw hS inX7 tyX7 tyX7_ok nmX7 rfl (by decide) hk 1 (by decide) hlink (fun _ h => h) (Or.inr ⟨rfl, hn, hcl⟩) (by cases v <;> rfl) (by cases v <;> rfl) (Nat.le_of_ble_eq_true rfl) (by simp [wF, uR, u3, dfi, dfl, dfr]) (fun cj b hb => wF_R d _ _ _ cj b hb) rfl hdg kk
theorem gt_290 (C : mx p s m args meth c y cc nL rt A D cy st) (hw : HW A D cy sz sh d H) {v : Int32} (hv : gI sh d 9 290 a = some v) {index : Nat} (hlink : Cond.fieldLink y.cls index "ManyHandsModel" "hands" "I" ∈ gtb) (hdg : decode cc pc = .ok (.getfield index, 3)) (kk : W p l e R s m args below meth c H locs cells slots Q (F0 m (pc + 3) ls (.int v :: rest))) : W p l e R s m args below meth c H locs cells slots Q (F0 m pc ls (.ref a :: rest)) := by
  obtain ⟨hk, rfl⟩ := gI_s hv
  exact w_get C hw inX7 rfl (by decide) hk 2 (by decide) hlink (fun _ h => h) rfl hdg kk
theorem pt_290 (C : mx p s m args meth c y cc nL rt A D cy st) (hw : HW A D cy sz sh d H) (hS : va_S A s.heap H locs) {v : Int32} (hv : pI sh d 9 290 a v = some d1) {index : Nat} (hlink : Cond.fieldLink y.cls index "ManyHandsModel" "hands" "I" ∈ gtb) (hdg : decode cc pc = .ok (.putfield index, 3)) (kk : ∀ (H1 : Heap) (locs1 : List Loc), HW A D cy sz sh d1 H1 → va_S A s.heap H1 locs1 → W p l e R s m args below meth c H1 locs1 cells slots Q (F0 m (pc + 3) ls rest)) : W p l e R s m args below meth c H locs cells slots Q (F0 m pc ls (.int v :: .ref a :: rest)) := by
  obtain ⟨hk, rfl⟩ := pI_s hv
  exact w_put C hw hS inX7 tyX7 tyX7_ok nmX7 rfl (by decide) hk 2 (by decide) hlink (fun _ h => h) (Or.inl rfl) rfl rfl (Nat.le_of_ble_eq_true rfl) (by simp [wF, uI, u3, dfi, dfl, dfr]) (fun cj b hb => wF_I d _ _ _ cj b hb) rfl hdg kk
theorem gt_291 (C : mx p s m args meth c y cc nL rt A D cy st) (hw : HW A D cy sz sh d H) {v : Option Nat} (hv : gR sh d 9 291 a = some v) {index : Nat} (hlink : Cond.fieldLink y.cls index "ManyHandsModel" "has" "[J" ∈ gtb) (hdg : decode cc pc = .ok (.getfield index, 3)) (kk : W p l e R s m args below meth c H locs cells slots Q (F0 m (pc + 3) ls (va_rf v :: rest))) : W p l e R s m args below meth c H locs cells slots Q (F0 m pc ls (.ref a :: rest)) := by
  obtain ⟨hk, rfl⟩ := gR_s hv
  exact w_get C hw inX7 rfl (by decide) hk 3 (by decide) hlink (fun _ h => h) rfl hdg kk
theorem pt_291 (C : mx p s m args meth c y cc nL rt A D cy st) (hw : HW A D cy sz sh d H) (hS : va_S A s.heap H locs) (hn : y.name = "<init>") (hcl : "ManyHandsModel" = y.cls) {v : Option Nat} (hv : pR sh d 9 291 a v = some d1) {index : Nat} (hlink : Cond.fieldLink y.cls index "ManyHandsModel" "has" "[J" ∈ gtb) (hdg : decode cc pc = .ok (.putfield index, 3)) (kk : ∀ (H1 : Heap) (locs1 : List Loc), HW A D cy sz sh d1 H1 → va_S A s.heap H1 locs1 → W p l e R s m args below meth c H1 locs1 cells slots Q (F0 m (pc + 3) ls rest)) : W p l e R s m args below meth c H locs cells slots Q (F0 m pc ls (va_rf v :: .ref a :: rest)) := by
  obtain ⟨hk, rfl⟩ := pR_s hv
  exact w_put C hw hS inX7 tyX7 tyX7_ok nmX7 rfl (by decide) hk 3 (by decide) hlink (fun _ h => h) (Or.inr ⟨rfl, hn, hcl⟩) (by cases v <;> rfl) (by cases v <;> rfl) (Nat.le_of_ble_eq_true rfl) (by simp [wF, uR, u3, dfi, dfl, dfr]) (fun cj b hb => wF_R d _ _ _ cj b hb) rfl hdg kk
theorem gt_292 (C : mx p s m args meth c y cc nL rt A D cy st) (hw : HW A D cy sz sh d H) {v : Option Nat} (hv : gR sh d 9 292 a = some v) {index : Nat} (hlink : Cond.fieldLink y.cls index "ManyHandsModel" "waits" "[J" ∈ gtb) (hdg : decode cc pc = .ok (.getfield index, 3)) (kk : W p l e R s m args below meth c H locs cells slots Q (F0 m (pc + 3) ls (va_rf v :: rest))) : W p l e R s m args below meth c H locs cells slots Q (F0 m pc ls (.ref a :: rest)) := by
  obtain ⟨hk, rfl⟩ := gR_s hv
  exact w_get C hw inX7 rfl (by decide) hk 4 (by decide) hlink (fun _ h => h) rfl hdg kk
theorem pt_292 (C : mx p s m args meth c y cc nL rt A D cy st) (hw : HW A D cy sz sh d H) (hS : va_S A s.heap H locs) (hn : y.name = "<init>") (hcl : "ManyHandsModel" = y.cls) {v : Option Nat} (hv : pR sh d 9 292 a v = some d1) {index : Nat} (hlink : Cond.fieldLink y.cls index "ManyHandsModel" "waits" "[J" ∈ gtb) (hdg : decode cc pc = .ok (.putfield index, 3)) (kk : ∀ (H1 : Heap) (locs1 : List Loc), HW A D cy sz sh d1 H1 → va_S A s.heap H1 locs1 → W p l e R s m args below meth c H1 locs1 cells slots Q (F0 m (pc + 3) ls rest)) : W p l e R s m args below meth c H locs cells slots Q (F0 m pc ls (va_rf v :: .ref a :: rest)) := by
  obtain ⟨hk, rfl⟩ := pR_s hv
  exact w_put C hw hS inX7 tyX7 tyX7_ok nmX7 rfl (by decide) hk 4 (by decide) hlink (fun _ h => h) (Or.inr ⟨rfl, hn, hcl⟩) (by cases v <;> rfl) (by cases v <;> rfl) (Nat.le_of_ble_eq_true rfl) (by simp [wF, uR, u3, dfi, dfl, dfr]) (fun cj b hb => wF_R d _ _ _ cj b hb) rfl hdg kk
theorem gt_293 (C : mx p s m args meth c y cc nL rt A D cy st) (hw : HW A D cy sz sh d H) {v : Option Nat} (hv : gR sh d 9 293 a = some v) {index : Nat} (hlink : Cond.fieldLink y.cls index "ManyHandsModel" "skips" "[Z" ∈ gtb) (hdg : decode cc pc = .ok (.getfield index, 3)) (kk : W p l e R s m args below meth c H locs cells slots Q (F0 m (pc + 3) ls (va_rf v :: rest))) : W p l e R s m args below meth c H locs cells slots Q (F0 m pc ls (.ref a :: rest)) := by
  obtain ⟨hk, rfl⟩ := gR_s hv
  exact w_get C hw inX7 rfl (by decide) hk 5 (by decide) hlink (fun _ h => h) rfl hdg kk
theorem pt_293 (C : mx p s m args meth c y cc nL rt A D cy st) (hw : HW A D cy sz sh d H) (hS : va_S A s.heap H locs) (hn : y.name = "<init>") (hcl : "ManyHandsModel" = y.cls) {v : Option Nat} (hv : pR sh d 9 293 a v = some d1) {index : Nat} (hlink : Cond.fieldLink y.cls index "ManyHandsModel" "skips" "[Z" ∈ gtb) (hdg : decode cc pc = .ok (.putfield index, 3)) (kk : ∀ (H1 : Heap) (locs1 : List Loc), HW A D cy sz sh d1 H1 → va_S A s.heap H1 locs1 → W p l e R s m args below meth c H1 locs1 cells slots Q (F0 m (pc + 3) ls rest)) : W p l e R s m args below meth c H locs cells slots Q (F0 m pc ls (va_rf v :: .ref a :: rest)) := by
  obtain ⟨hk, rfl⟩ := pR_s hv
  exact w_put C hw hS inX7 tyX7 tyX7_ok nmX7 rfl (by decide) hk 5 (by decide) hlink (fun _ h => h) (Or.inr ⟨rfl, hn, hcl⟩) (by cases v <;> rfl) (by cases v <;> rfl) (Nat.le_of_ble_eq_true rfl) (by simp [wF, uR, u3, dfi, dfl, dfr]) (fun cj b hb => wF_R d _ _ _ cj b hb) rfl hdg kk
theorem gt_294 (C : mx p s m args meth c y cc nL rt A D cy st) (hw : HW A D cy sz sh d H) {v : Option Nat} (hv : gR sh d 9 294 a = some v) {index : Nat} (hlink : Cond.fieldLink y.cls index "ManyHandsModel" "madeBy" "[I" ∈ gtb) (hdg : decode cc pc = .ok (.getfield index, 3)) (kk : W p l e R s m args below meth c H locs cells slots Q (F0 m (pc + 3) ls (va_rf v :: rest))) : W p l e R s m args below meth c H locs cells slots Q (F0 m pc ls (.ref a :: rest)) := by
  obtain ⟨hk, rfl⟩ := gR_s hv
  exact w_get C hw inX7 rfl (by decide) hk 6 (by decide) hlink (fun _ h => h) rfl hdg kk
theorem pt_294 (C : mx p s m args meth c y cc nL rt A D cy st) (hw : HW A D cy sz sh d H) (hS : va_S A s.heap H locs) (hn : y.name = "<init>") (hcl : "ManyHandsModel" = y.cls) {v : Option Nat} (hv : pR sh d 9 294 a v = some d1) {index : Nat} (hlink : Cond.fieldLink y.cls index "ManyHandsModel" "madeBy" "[I" ∈ gtb) (hdg : decode cc pc = .ok (.putfield index, 3)) (kk : ∀ (H1 : Heap) (locs1 : List Loc), HW A D cy sz sh d1 H1 → va_S A s.heap H1 locs1 → W p l e R s m args below meth c H1 locs1 cells slots Q (F0 m (pc + 3) ls rest)) : W p l e R s m args below meth c H locs cells slots Q (F0 m pc ls (va_rf v :: .ref a :: rest)) := by
  obtain ⟨hk, rfl⟩ := pR_s hv
  exact w_put C hw hS inX7 tyX7 tyX7_ok nmX7 rfl (by decide) hk 6 (by decide) hlink (fun _ h => h) (Or.inr ⟨rfl, hn, hcl⟩) (by cases v <;> rfl) (by cases v <;> rfl) (Nat.le_of_ble_eq_true rfl) (by simp [wF, uR, u3, dfi, dfl, dfr]) (fun cj b hb => wF_R d _ _ _ cj b hb) rfl hdg kk
theorem gt_295 (C : mx p s m args meth c y cc nL rt A D cy st) (hw : HW A D cy sz sh d H) {v : Int32} (hv : gI sh d 9 295 a = some v) {index : Nat} (hlink : Cond.fieldLink y.cls index "ManyHandsModel" "pages" "I" ∈ gtb) (hdg : decode cc pc = .ok (.getfield index, 3)) (kk : W p l e R s m args below meth c H locs cells slots Q (F0 m (pc + 3) ls (.int v :: rest))) : W p l e R s m args below meth c H locs cells slots Q (F0 m pc ls (.ref a :: rest)) := by
  obtain ⟨hk, rfl⟩ := gI_s hv
  exact w_get C hw inX7 rfl (by decide) hk 7 (by decide) hlink (fun _ h => h) rfl hdg kk
theorem pt_295 (C : mx p s m args meth c y cc nL rt A D cy st) (hw : HW A D cy sz sh d H) (hS : va_S A s.heap H locs) {v : Int32} (hv : pI sh d 9 295 a v = some d1) {index : Nat} (hlink : Cond.fieldLink y.cls index "ManyHandsModel" "pages" "I" ∈ gtb) (hdg : decode cc pc = .ok (.putfield index, 3)) (kk : ∀ (H1 : Heap) (locs1 : List Loc), HW A D cy sz sh d1 H1 → va_S A s.heap H1 locs1 → W p l e R s m args below meth c H1 locs1 cells slots Q (F0 m (pc + 3) ls rest)) : W p l e R s m args below meth c H locs cells slots Q (F0 m pc ls (.int v :: .ref a :: rest)) := by
  obtain ⟨hk, rfl⟩ := pI_s hv
  exact w_put C hw hS inX7 tyX7 tyX7_ok nmX7 rfl (by decide) hk 7 (by decide) hlink (fun _ h => h) (Or.inl rfl) rfl rfl (Nat.le_of_ble_eq_true rfl) (by simp [wF, uI, u3, dfi, dfl, dfr]) (fun cj b hb => wF_I d _ _ _ cj b hb) rfl hdg kk
theorem gt_296 (C : mx p s m args meth c y cc nL rt A D cy st) (hw : HW A D cy sz sh d H) {v : Option Nat} (hv : gR sh d 9 296 a = some v) {index : Nat} (hlink : Cond.fieldLink y.cls index "ManyHandsModel" "kindOf" "[I" ∈ gtb) (hdg : decode cc pc = .ok (.getfield index, 3)) (kk : W p l e R s m args below meth c H locs cells slots Q (F0 m (pc + 3) ls (va_rf v :: rest))) : W p l e R s m args below meth c H locs cells slots Q (F0 m pc ls (.ref a :: rest)) := by
  obtain ⟨hk, rfl⟩ := gR_s hv
  exact w_get C hw inX7 rfl (by decide) hk 8 (by decide) hlink (fun _ h => h) rfl hdg kk
theorem pt_296 (C : mx p s m args meth c y cc nL rt A D cy st) (hw : HW A D cy sz sh d H) (hS : va_S A s.heap H locs) (hn : y.name = "<init>") (hcl : "ManyHandsModel" = y.cls) {v : Option Nat} (hv : pR sh d 9 296 a v = some d1) {index : Nat} (hlink : Cond.fieldLink y.cls index "ManyHandsModel" "kindOf" "[I" ∈ gtb) (hdg : decode cc pc = .ok (.putfield index, 3)) (kk : ∀ (H1 : Heap) (locs1 : List Loc), HW A D cy sz sh d1 H1 → va_S A s.heap H1 locs1 → W p l e R s m args below meth c H1 locs1 cells slots Q (F0 m (pc + 3) ls rest)) : W p l e R s m args below meth c H locs cells slots Q (F0 m pc ls (va_rf v :: .ref a :: rest)) := by
  obtain ⟨hk, rfl⟩ := pR_s hv
  exact w_put C hw hS inX7 tyX7 tyX7_ok nmX7 rfl (by decide) hk 8 (by decide) hlink (fun _ h => h) (Or.inr ⟨rfl, hn, hcl⟩) (by cases v <;> rfl) (by cases v <;> rfl) (Nat.le_of_ble_eq_true rfl) (by simp [wF, uR, u3, dfi, dfl, dfr]) (fun cj b hb => wF_R d _ _ _ cj b hb) rfl hdg kk
theorem gt_297 (C : mx p s m args meth c y cc nL rt A D cy st) (hw : HW A D cy sz sh d H) {v : Int32} (hv : gI sh d 9 297 a = some v) {index : Nat} (hlink : Cond.fieldLink y.cls index "ManyHandsModel" "changes" "I" ∈ gtb) (hdg : decode cc pc = .ok (.getfield index, 3)) (kk : W p l e R s m args below meth c H locs cells slots Q (F0 m (pc + 3) ls (.int v :: rest))) : W p l e R s m args below meth c H locs cells slots Q (F0 m pc ls (.ref a :: rest)) := by
  obtain ⟨hk, rfl⟩ := gI_s hv
  exact w_get C hw inX7 rfl (by decide) hk 9 (by decide) hlink (fun _ h => h) rfl hdg kk
theorem pt_297 (C : mx p s m args meth c y cc nL rt A D cy st) (hw : HW A D cy sz sh d H) (hS : va_S A s.heap H locs) {v : Int32} (hv : pI sh d 9 297 a v = some d1) {index : Nat} (hlink : Cond.fieldLink y.cls index "ManyHandsModel" "changes" "I" ∈ gtb) (hdg : decode cc pc = .ok (.putfield index, 3)) (kk : ∀ (H1 : Heap) (locs1 : List Loc), HW A D cy sz sh d1 H1 → va_S A s.heap H1 locs1 → W p l e R s m args below meth c H1 locs1 cells slots Q (F0 m (pc + 3) ls rest)) : W p l e R s m args below meth c H locs cells slots Q (F0 m pc ls (.int v :: .ref a :: rest)) := by
  obtain ⟨hk, rfl⟩ := pI_s hv
  exact w_put C hw hS inX7 tyX7 tyX7_ok nmX7 rfl (by decide) hk 9 (by decide) hlink (fun _ h => h) (Or.inl rfl) rfl rfl (Nat.le_of_ble_eq_true rfl) (by simp [wF, uI, u3, dfi, dfl, dfr]) (fun cj b hb => wF_I d _ _ _ cj b hb) rfl hdg kk
theorem gt_298 (C : mx p s m args meth c y cc nL rt A D cy st) (hw : HW A D cy sz sh d H) {v : Option Nat} (hv : gR sh d 9 298 a = some v) {index : Nat} (hlink : Cond.fieldLink y.cls index "ManyHandsModel" "handOf" "[I" ∈ gtb) (hdg : decode cc pc = .ok (.getfield index, 3)) (kk : W p l e R s m args below meth c H locs cells slots Q (F0 m (pc + 3) ls (va_rf v :: rest))) : W p l e R s m args below meth c H locs cells slots Q (F0 m pc ls (.ref a :: rest)) := by
  obtain ⟨hk, rfl⟩ := gR_s hv
  exact w_get C hw inX7 rfl (by decide) hk 10 (by decide) hlink (fun _ h => h) rfl hdg kk
theorem pt_298 (C : mx p s m args meth c y cc nL rt A D cy st) (hw : HW A D cy sz sh d H) (hS : va_S A s.heap H locs) (hn : y.name = "<init>") (hcl : "ManyHandsModel" = y.cls) {v : Option Nat} (hv : pR sh d 9 298 a v = some d1) {index : Nat} (hlink : Cond.fieldLink y.cls index "ManyHandsModel" "handOf" "[I" ∈ gtb) (hdg : decode cc pc = .ok (.putfield index, 3)) (kk : ∀ (H1 : Heap) (locs1 : List Loc), HW A D cy sz sh d1 H1 → va_S A s.heap H1 locs1 → W p l e R s m args below meth c H1 locs1 cells slots Q (F0 m (pc + 3) ls rest)) : W p l e R s m args below meth c H locs cells slots Q (F0 m pc ls (va_rf v :: .ref a :: rest)) := by
  obtain ⟨hk, rfl⟩ := pR_s hv
  exact w_put C hw hS inX7 tyX7 tyX7_ok nmX7 rfl (by decide) hk 10 (by decide) hlink (fun _ h => h) (Or.inr ⟨rfl, hn, hcl⟩) (by cases v <;> rfl) (by cases v <;> rfl) (Nat.le_of_ble_eq_true rfl) (by simp [wF, uR, u3, dfi, dfl, dfr]) (fun cj b hb => wF_R d _ _ _ cj b hb) rfl hdg kk
theorem gt_299 (C : mx p s m args meth c y cc nL rt A D cy st) (hw : HW A D cy sz sh d H) {v : Option Nat} (hv : gR sh d 9 299 a = some v) {index : Nat} (hlink : Cond.fieldLink y.cls index "ManyHandsModel" "pageOf" "[I" ∈ gtb) (hdg : decode cc pc = .ok (.getfield index, 3)) (kk : W p l e R s m args below meth c H locs cells slots Q (F0 m (pc + 3) ls (va_rf v :: rest))) : W p l e R s m args below meth c H locs cells slots Q (F0 m pc ls (.ref a :: rest)) := by
  obtain ⟨hk, rfl⟩ := gR_s hv
  exact w_get C hw inX7 rfl (by decide) hk 11 (by decide) hlink (fun _ h => h) rfl hdg kk
theorem pt_299 (C : mx p s m args meth c y cc nL rt A D cy st) (hw : HW A D cy sz sh d H) (hS : va_S A s.heap H locs) (hn : y.name = "<init>") (hcl : "ManyHandsModel" = y.cls) {v : Option Nat} (hv : pR sh d 9 299 a v = some d1) {index : Nat} (hlink : Cond.fieldLink y.cls index "ManyHandsModel" "pageOf" "[I" ∈ gtb) (hdg : decode cc pc = .ok (.putfield index, 3)) (kk : ∀ (H1 : Heap) (locs1 : List Loc), HW A D cy sz sh d1 H1 → va_S A s.heap H1 locs1 → W p l e R s m args below meth c H1 locs1 cells slots Q (F0 m (pc + 3) ls rest)) : W p l e R s m args below meth c H locs cells slots Q (F0 m pc ls (va_rf v :: .ref a :: rest)) := by
  obtain ⟨hk, rfl⟩ := pR_s hv
  exact w_put C hw hS inX7 tyX7 tyX7_ok nmX7 rfl (by decide) hk 11 (by decide) hlink (fun _ h => h) (Or.inr ⟨rfl, hn, hcl⟩) (by cases v <;> rfl) (by cases v <;> rfl) (Nat.le_of_ble_eq_true rfl) (by simp [wF, uR, u3, dfi, dfl, dfr]) (fun cj b hb => wF_R d _ _ _ cj b hb) rfl hdg kk
theorem gt_300 (C : mx p s m args meth c y cc nL rt A D cy st) (hw : HW A D cy sz sh d H) {v : Option Nat} (hv : gR sh d 9 300 a = some v) {index : Nat} (hlink : Cond.fieldLink y.cls index "ManyHandsModel" "countOf" "[I" ∈ gtb) (hdg : decode cc pc = .ok (.getfield index, 3)) (kk : W p l e R s m args below meth c H locs cells slots Q (F0 m (pc + 3) ls (va_rf v :: rest))) : W p l e R s m args below meth c H locs cells slots Q (F0 m pc ls (.ref a :: rest)) := by
  obtain ⟨hk, rfl⟩ := gR_s hv
  exact w_get C hw inX7 rfl (by decide) hk 12 (by decide) hlink (fun _ h => h) rfl hdg kk
theorem pt_300 (C : mx p s m args meth c y cc nL rt A D cy st) (hw : HW A D cy sz sh d H) (hS : va_S A s.heap H locs) (hn : y.name = "<init>") (hcl : "ManyHandsModel" = y.cls) {v : Option Nat} (hv : pR sh d 9 300 a v = some d1) {index : Nat} (hlink : Cond.fieldLink y.cls index "ManyHandsModel" "countOf" "[I" ∈ gtb) (hdg : decode cc pc = .ok (.putfield index, 3)) (kk : ∀ (H1 : Heap) (locs1 : List Loc), HW A D cy sz sh d1 H1 → va_S A s.heap H1 locs1 → W p l e R s m args below meth c H1 locs1 cells slots Q (F0 m (pc + 3) ls rest)) : W p l e R s m args below meth c H locs cells slots Q (F0 m pc ls (va_rf v :: .ref a :: rest)) := by
  obtain ⟨hk, rfl⟩ := pR_s hv
  exact w_put C hw hS inX7 tyX7 tyX7_ok nmX7 rfl (by decide) hk 12 (by decide) hlink (fun _ h => h) (Or.inr ⟨rfl, hn, hcl⟩) (by cases v <;> rfl) (by cases v <;> rfl) (Nat.le_of_ble_eq_true rfl) (by simp [wF, uR, u3, dfi, dfl, dfr]) (fun cj b hb => wF_R d _ _ _ cj b hb) rfl hdg kk
theorem gt_301 (C : mx p s m args meth c y cc nL rt A D cy st) (hw : HW A D cy sz sh d H) {v : Option Nat} (hv : gR sh d 9 301 a = some v) {index : Nat} (hlink : Cond.fieldLink y.cls index "ManyHandsModel" "doing" "[I" ∈ gtb) (hdg : decode cc pc = .ok (.getfield index, 3)) (kk : W p l e R s m args below meth c H locs cells slots Q (F0 m (pc + 3) ls (va_rf v :: rest))) : W p l e R s m args below meth c H locs cells slots Q (F0 m pc ls (.ref a :: rest)) := by
  obtain ⟨hk, rfl⟩ := gR_s hv
  exact w_get C hw inX7 rfl (by decide) hk 13 (by decide) hlink (fun _ h => h) rfl hdg kk
theorem pt_301 (C : mx p s m args meth c y cc nL rt A D cy st) (hw : HW A D cy sz sh d H) (hS : va_S A s.heap H locs) (hn : y.name = "<init>") (hcl : "ManyHandsModel" = y.cls) {v : Option Nat} (hv : pR sh d 9 301 a v = some d1) {index : Nat} (hlink : Cond.fieldLink y.cls index "ManyHandsModel" "doing" "[I" ∈ gtb) (hdg : decode cc pc = .ok (.putfield index, 3)) (kk : ∀ (H1 : Heap) (locs1 : List Loc), HW A D cy sz sh d1 H1 → va_S A s.heap H1 locs1 → W p l e R s m args below meth c H1 locs1 cells slots Q (F0 m (pc + 3) ls rest)) : W p l e R s m args below meth c H locs cells slots Q (F0 m pc ls (va_rf v :: .ref a :: rest)) := by
  obtain ⟨hk, rfl⟩ := pR_s hv
  exact w_put C hw hS inX7 tyX7 tyX7_ok nmX7 rfl (by decide) hk 13 (by decide) hlink (fun _ h => h) (Or.inr ⟨rfl, hn, hcl⟩) (by cases v <;> rfl) (by cases v <;> rfl) (Nat.le_of_ble_eq_true rfl) (by simp [wF, uR, u3, dfi, dfl, dfr]) (fun cj b hb => wF_R d _ _ _ cj b hb) rfl hdg kk
theorem gt_302 (C : mx p s m args meth c y cc nL rt A D cy st) (hw : HW A D cy sz sh d H) {v : Option Nat} (hv : gR sh d 9 302 a = some v) {index : Nat} (hlink : Cond.fieldLink y.cls index "ManyHandsModel" "one" "[I" ∈ gtb) (hdg : decode cc pc = .ok (.getfield index, 3)) (kk : W p l e R s m args below meth c H locs cells slots Q (F0 m (pc + 3) ls (va_rf v :: rest))) : W p l e R s m args below meth c H locs cells slots Q (F0 m pc ls (.ref a :: rest)) := by
  obtain ⟨hk, rfl⟩ := gR_s hv
  exact w_get C hw inX7 rfl (by decide) hk 14 (by decide) hlink (fun _ h => h) rfl hdg kk
theorem pt_302 (C : mx p s m args meth c y cc nL rt A D cy st) (hw : HW A D cy sz sh d H) (hS : va_S A s.heap H locs) (hn : y.name = "<init>") (hcl : "ManyHandsModel" = y.cls) {v : Option Nat} (hv : pR sh d 9 302 a v = some d1) {index : Nat} (hlink : Cond.fieldLink y.cls index "ManyHandsModel" "one" "[I" ∈ gtb) (hdg : decode cc pc = .ok (.putfield index, 3)) (kk : ∀ (H1 : Heap) (locs1 : List Loc), HW A D cy sz sh d1 H1 → va_S A s.heap H1 locs1 → W p l e R s m args below meth c H1 locs1 cells slots Q (F0 m (pc + 3) ls rest)) : W p l e R s m args below meth c H locs cells slots Q (F0 m pc ls (va_rf v :: .ref a :: rest)) := by
  obtain ⟨hk, rfl⟩ := pR_s hv
  exact w_put C hw hS inX7 tyX7 tyX7_ok nmX7 rfl (by decide) hk 14 (by decide) hlink (fun _ h => h) (Or.inr ⟨rfl, hn, hcl⟩) (by cases v <;> rfl) (by cases v <;> rfl) (Nat.le_of_ble_eq_true rfl) (by simp [wF, uR, u3, dfi, dfl, dfr]) (fun cj b hb => wF_R d _ _ _ cj b hb) rfl hdg kk
theorem gt_303 (C : mx p s m args meth c y cc nL rt A D cy st) (hw : HW A D cy sz sh d H) {v : Option Nat} (hv : gR sh d 9 303 a = some v) {index : Nat} (hlink : Cond.fieldLink y.cls index "ManyHandsModel" "two" "[I" ∈ gtb) (hdg : decode cc pc = .ok (.getfield index, 3)) (kk : W p l e R s m args below meth c H locs cells slots Q (F0 m (pc + 3) ls (va_rf v :: rest))) : W p l e R s m args below meth c H locs cells slots Q (F0 m pc ls (.ref a :: rest)) := by
  obtain ⟨hk, rfl⟩ := gR_s hv
  exact w_get C hw inX7 rfl (by decide) hk 15 (by decide) hlink (fun _ h => h) rfl hdg kk
theorem pt_303 (C : mx p s m args meth c y cc nL rt A D cy st) (hw : HW A D cy sz sh d H) (hS : va_S A s.heap H locs) (hn : y.name = "<init>") (hcl : "ManyHandsModel" = y.cls) {v : Option Nat} (hv : pR sh d 9 303 a v = some d1) {index : Nat} (hlink : Cond.fieldLink y.cls index "ManyHandsModel" "two" "[I" ∈ gtb) (hdg : decode cc pc = .ok (.putfield index, 3)) (kk : ∀ (H1 : Heap) (locs1 : List Loc), HW A D cy sz sh d1 H1 → va_S A s.heap H1 locs1 → W p l e R s m args below meth c H1 locs1 cells slots Q (F0 m (pc + 3) ls rest)) : W p l e R s m args below meth c H locs cells slots Q (F0 m pc ls (va_rf v :: .ref a :: rest)) := by
  obtain ⟨hk, rfl⟩ := pR_s hv
  exact w_put C hw hS inX7 tyX7 tyX7_ok nmX7 rfl (by decide) hk 15 (by decide) hlink (fun _ h => h) (Or.inr ⟨rfl, hn, hcl⟩) (by cases v <;> rfl) (by cases v <;> rfl) (Nat.le_of_ble_eq_true rfl) (by simp [wF, uR, u3, dfi, dfl, dfr]) (fun cj b hb => wF_R d _ _ _ cj b hb) rfl hdg kk
theorem gt_304 (C : mx p s m args meth c y cc nL rt A D cy st) (hw : HW A D cy sz sh d H) {v : Option Nat} (hv : gR sh d 9 304 a = some v) {index : Nat} (hlink : Cond.fieldLink y.cls index "ManyHandsModel" "valueOf" "[J" ∈ gtb) (hdg : decode cc pc = .ok (.getfield index, 3)) (kk : W p l e R s m args below meth c H locs cells slots Q (F0 m (pc + 3) ls (va_rf v :: rest))) : W p l e R s m args below meth c H locs cells slots Q (F0 m pc ls (.ref a :: rest)) := by
  obtain ⟨hk, rfl⟩ := gR_s hv
  exact w_get C hw inX7 rfl (by decide) hk 16 (by decide) hlink (fun _ h => h) rfl hdg kk
theorem pt_304 (C : mx p s m args meth c y cc nL rt A D cy st) (hw : HW A D cy sz sh d H) (hS : va_S A s.heap H locs) (hn : y.name = "<init>") (hcl : "ManyHandsModel" = y.cls) {v : Option Nat} (hv : pR sh d 9 304 a v = some d1) {index : Nat} (hlink : Cond.fieldLink y.cls index "ManyHandsModel" "valueOf" "[J" ∈ gtb) (hdg : decode cc pc = .ok (.putfield index, 3)) (kk : ∀ (H1 : Heap) (locs1 : List Loc), HW A D cy sz sh d1 H1 → va_S A s.heap H1 locs1 → W p l e R s m args below meth c H1 locs1 cells slots Q (F0 m (pc + 3) ls rest)) : W p l e R s m args below meth c H locs cells slots Q (F0 m pc ls (va_rf v :: .ref a :: rest)) := by
  obtain ⟨hk, rfl⟩ := pR_s hv
  exact w_put C hw hS inX7 tyX7 tyX7_ok nmX7 rfl (by decide) hk 16 (by decide) hlink (fun _ h => h) (Or.inr ⟨rfl, hn, hcl⟩) (by cases v <;> rfl) (by cases v <;> rfl) (Nat.le_of_ble_eq_true rfl) (by simp [wF, uR, u3, dfi, dfl, dfr]) (fun cj b hb => wF_R d _ _ _ cj b hb) rfl hdg kk
theorem gt_305 (C : mx p s m args meth c y cc nL rt A D cy st) (hw : HW A D cy sz sh d H) {v : Option Nat} (hv : gR sh d 9 305 a = some v) {index : Nat} (hlink : Cond.fieldLink y.cls index "ManyHandsModel" "knows" "[J" ∈ gtb) (hdg : decode cc pc = .ok (.getfield index, 3)) (kk : W p l e R s m args below meth c H locs cells slots Q (F0 m (pc + 3) ls (va_rf v :: rest))) : W p l e R s m args below meth c H locs cells slots Q (F0 m pc ls (.ref a :: rest)) := by
  obtain ⟨hk, rfl⟩ := gR_s hv
  exact w_get C hw inX7 rfl (by decide) hk 17 (by decide) hlink (fun _ h => h) rfl hdg kk
theorem pt_305 (C : mx p s m args meth c y cc nL rt A D cy st) (hw : HW A D cy sz sh d H) (hS : va_S A s.heap H locs) (hn : y.name = "<init>") (hcl : "ManyHandsModel" = y.cls) {v : Option Nat} (hv : pR sh d 9 305 a v = some d1) {index : Nat} (hlink : Cond.fieldLink y.cls index "ManyHandsModel" "knows" "[J" ∈ gtb) (hdg : decode cc pc = .ok (.putfield index, 3)) (kk : ∀ (H1 : Heap) (locs1 : List Loc), HW A D cy sz sh d1 H1 → va_S A s.heap H1 locs1 → W p l e R s m args below meth c H1 locs1 cells slots Q (F0 m (pc + 3) ls rest)) : W p l e R s m args below meth c H locs cells slots Q (F0 m pc ls (va_rf v :: .ref a :: rest)) := by
  obtain ⟨hk, rfl⟩ := pR_s hv
  exact w_put C hw hS inX7 tyX7 tyX7_ok nmX7 rfl (by decide) hk 17 (by decide) hlink (fun _ h => h) (Or.inr ⟨rfl, hn, hcl⟩) (by cases v <;> rfl) (by cases v <;> rfl) (Nat.le_of_ble_eq_true rfl) (by simp [wF, uR, u3, dfi, dfl, dfr]) (fun cj b hb => wF_R d _ _ _ cj b hb) rfl hdg kk
theorem gt_306 (C : mx p s m args meth c y cc nL rt A D cy st) (hw : HW A D cy sz sh d H) {v : Int64} (hv : gL sh d 9 306 a = some v) {index : Nat} (hlink : Cond.fieldLink y.cls index "ManyHandsModel" "asked" "J" ∈ gtb) (hdg : decode cc pc = .ok (.getfield index, 3)) (kk : W p l e R s m args below meth c H locs cells slots Q (F0 m (pc + 3) ls (.long v :: rest))) : W p l e R s m args below meth c H locs cells slots Q (F0 m pc ls (.ref a :: rest)) := by
  obtain ⟨hk, rfl⟩ := gL_s hv
  exact w_get C hw inX7 rfl (by decide) hk 18 (by decide) hlink (fun _ h => h) rfl hdg kk
theorem pt_306 (C : mx p s m args meth c y cc nL rt A D cy st) (hw : HW A D cy sz sh d H) (hS : va_S A s.heap H locs) {v : Int64} (hv : pL sh d 9 306 a v = some d1) {index : Nat} (hlink : Cond.fieldLink y.cls index "ManyHandsModel" "asked" "J" ∈ gtb) (hdg : decode cc pc = .ok (.putfield index, 3)) (kk : ∀ (H1 : Heap) (locs1 : List Loc), HW A D cy sz sh d1 H1 → va_S A s.heap H1 locs1 → W p l e R s m args below meth c H1 locs1 cells slots Q (F0 m (pc + 3) ls rest)) : W p l e R s m args below meth c H locs cells slots Q (F0 m pc ls (.long v :: .ref a :: rest)) := by
  obtain ⟨hk, rfl⟩ := pL_s hv
  exact w_put C hw hS inX7 tyX7 tyX7_ok nmX7 rfl (by decide) hk 18 (by decide) hlink (fun _ h => h) (Or.inl rfl) rfl rfl (Nat.le_of_ble_eq_true rfl) (by simp [wF, uL, u3, dfi, dfl, dfr]) (fun cj b hb => wF_L d _ _ _ cj b hb) rfl hdg kk
theorem gt_307 (C : mx p s m args meth c y cc nL rt A D cy st) (hw : HW A D cy sz sh d H) {v : Option Nat} (hv : gR sh d 9 307 a = some v) {index : Nat} (hlink : Cond.fieldLink y.cls index "ManyHandsModel" "heads" "[I" ∈ gtb) (hdg : decode cc pc = .ok (.getfield index, 3)) (kk : W p l e R s m args below meth c H locs cells slots Q (F0 m (pc + 3) ls (va_rf v :: rest))) : W p l e R s m args below meth c H locs cells slots Q (F0 m pc ls (.ref a :: rest)) := by
  obtain ⟨hk, rfl⟩ := gR_s hv
  exact w_get C hw inX7 rfl (by decide) hk 19 (by decide) hlink (fun _ h => h) rfl hdg kk
theorem pt_307 (C : mx p s m args meth c y cc nL rt A D cy st) (hw : HW A D cy sz sh d H) (hS : va_S A s.heap H locs) (hn : y.name = "<init>") (hcl : "ManyHandsModel" = y.cls) {v : Option Nat} (hv : pR sh d 9 307 a v = some d1) {index : Nat} (hlink : Cond.fieldLink y.cls index "ManyHandsModel" "heads" "[I" ∈ gtb) (hdg : decode cc pc = .ok (.putfield index, 3)) (kk : ∀ (H1 : Heap) (locs1 : List Loc), HW A D cy sz sh d1 H1 → va_S A s.heap H1 locs1 → W p l e R s m args below meth c H1 locs1 cells slots Q (F0 m (pc + 3) ls rest)) : W p l e R s m args below meth c H locs cells slots Q (F0 m pc ls (va_rf v :: .ref a :: rest)) := by
  obtain ⟨hk, rfl⟩ := pR_s hv
  exact w_put C hw hS inX7 tyX7 tyX7_ok nmX7 rfl (by decide) hk 19 (by decide) hlink (fun _ h => h) (Or.inr ⟨rfl, hn, hcl⟩) (by cases v <;> rfl) (by cases v <;> rfl) (Nat.le_of_ble_eq_true rfl) (by simp [wF, uR, u3, dfi, dfl, dfr]) (fun cj b hb => wF_R d _ _ _ cj b hb) rfl hdg kk
theorem gt_308 (C : mx p s m args meth c y cc nL rt A D cy st) (hw : HW A D cy sz sh d H) {v : Int32} (hv : gI sh d 9 308 a = some v) {index : Nat} (hlink : Cond.fieldLink y.cls index "ManyHandsModel" "headMany" "I" ∈ gtb) (hdg : decode cc pc = .ok (.getfield index, 3)) (kk : W p l e R s m args below meth c H locs cells slots Q (F0 m (pc + 3) ls (.int v :: rest))) : W p l e R s m args below meth c H locs cells slots Q (F0 m pc ls (.ref a :: rest)) := by
  obtain ⟨hk, rfl⟩ := gI_s hv
  exact w_get C hw inX7 rfl (by decide) hk 20 (by decide) hlink (fun _ h => h) rfl hdg kk
theorem pt_308 (C : mx p s m args meth c y cc nL rt A D cy st) (hw : HW A D cy sz sh d H) (hS : va_S A s.heap H locs) {v : Int32} (hv : pI sh d 9 308 a v = some d1) {index : Nat} (hlink : Cond.fieldLink y.cls index "ManyHandsModel" "headMany" "I" ∈ gtb) (hdg : decode cc pc = .ok (.putfield index, 3)) (kk : ∀ (H1 : Heap) (locs1 : List Loc), HW A D cy sz sh d1 H1 → va_S A s.heap H1 locs1 → W p l e R s m args below meth c H1 locs1 cells slots Q (F0 m (pc + 3) ls rest)) : W p l e R s m args below meth c H locs cells slots Q (F0 m pc ls (.int v :: .ref a :: rest)) := by
  obtain ⟨hk, rfl⟩ := pI_s hv
  exact w_put C hw hS inX7 tyX7 tyX7_ok nmX7 rfl (by decide) hk 20 (by decide) hlink (fun _ h => h) (Or.inl rfl) rfl rfl (Nat.le_of_ble_eq_true rfl) (by simp [wF, uI, u3, dfi, dfl, dfr]) (fun cj b hb => wF_I d _ _ _ cj b hb) rfl hdg kk
theorem gt_309 (C : mx p s m args meth c y cc nL rt A D cy st) (hw : HW A D cy sz sh d H) {v : Option Nat} (hv : gR sh d 9 309 a = some v) {index : Nat} (hlink : Cond.fieldLink y.cls index "ManyHandsModel" "row" "[J" ∈ gtb) (hdg : decode cc pc = .ok (.getfield index, 3)) (kk : W p l e R s m args below meth c H locs cells slots Q (F0 m (pc + 3) ls (va_rf v :: rest))) : W p l e R s m args below meth c H locs cells slots Q (F0 m pc ls (.ref a :: rest)) := by
  obtain ⟨hk, rfl⟩ := gR_s hv
  exact w_get C hw inX7 rfl (by decide) hk 21 (by decide) hlink (fun _ h => h) rfl hdg kk
theorem pt_309 (C : mx p s m args meth c y cc nL rt A D cy st) (hw : HW A D cy sz sh d H) (hS : va_S A s.heap H locs) (hn : y.name = "<init>") (hcl : "ManyHandsModel" = y.cls) {v : Option Nat} (hv : pR sh d 9 309 a v = some d1) {index : Nat} (hlink : Cond.fieldLink y.cls index "ManyHandsModel" "row" "[J" ∈ gtb) (hdg : decode cc pc = .ok (.putfield index, 3)) (kk : ∀ (H1 : Heap) (locs1 : List Loc), HW A D cy sz sh d1 H1 → va_S A s.heap H1 locs1 → W p l e R s m args below meth c H1 locs1 cells slots Q (F0 m (pc + 3) ls rest)) : W p l e R s m args below meth c H locs cells slots Q (F0 m pc ls (va_rf v :: .ref a :: rest)) := by
  obtain ⟨hk, rfl⟩ := pR_s hv
  exact w_put C hw hS inX7 tyX7 tyX7_ok nmX7 rfl (by decide) hk 21 (by decide) hlink (fun _ h => h) (Or.inr ⟨rfl, hn, hcl⟩) (by cases v <;> rfl) (by cases v <;> rfl) (Nat.le_of_ble_eq_true rfl) (by simp [wF, uR, u3, dfi, dfl, dfr]) (fun cj b hb => wF_R d _ _ _ cj b hb) rfl hdg kk
theorem gt_310 (C : mx p s m args meth c y cc nL rt A D cy st) (hw : HW A D cy sz sh d H) {v : Option Nat} (hv : gR sh d 9 310 a = some v) {index : Nat} (hlink : Cond.fieldLink y.cls index "ManyHandsModel" "other" "[J" ∈ gtb) (hdg : decode cc pc = .ok (.getfield index, 3)) (kk : W p l e R s m args below meth c H locs cells slots Q (F0 m (pc + 3) ls (va_rf v :: rest))) : W p l e R s m args below meth c H locs cells slots Q (F0 m pc ls (.ref a :: rest)) := by
  obtain ⟨hk, rfl⟩ := gR_s hv
  exact w_get C hw inX7 rfl (by decide) hk 22 (by decide) hlink (fun _ h => h) rfl hdg kk
theorem pt_310 (C : mx p s m args meth c y cc nL rt A D cy st) (hw : HW A D cy sz sh d H) (hS : va_S A s.heap H locs) (hn : y.name = "<init>") (hcl : "ManyHandsModel" = y.cls) {v : Option Nat} (hv : pR sh d 9 310 a v = some d1) {index : Nat} (hlink : Cond.fieldLink y.cls index "ManyHandsModel" "other" "[J" ∈ gtb) (hdg : decode cc pc = .ok (.putfield index, 3)) (kk : ∀ (H1 : Heap) (locs1 : List Loc), HW A D cy sz sh d1 H1 → va_S A s.heap H1 locs1 → W p l e R s m args below meth c H1 locs1 cells slots Q (F0 m (pc + 3) ls rest)) : W p l e R s m args below meth c H locs cells slots Q (F0 m pc ls (va_rf v :: .ref a :: rest)) := by
  obtain ⟨hk, rfl⟩ := pR_s hv
  exact w_put C hw hS inX7 tyX7 tyX7_ok nmX7 rfl (by decide) hk 22 (by decide) hlink (fun _ h => h) (Or.inr ⟨rfl, hn, hcl⟩) (by cases v <;> rfl) (by cases v <;> rfl) (Nat.le_of_ble_eq_true rfl) (by simp [wF, uR, u3, dfi, dfl, dfr]) (fun cj b hb => wF_R d _ _ _ cj b hb) rfl hdg kk
theorem gt_311 (C : mx p s m args meth c y cc nL rt A D cy st) (hw : HW A D cy sz sh d H) {v : Option Nat} (hv : gR sh d 9 311 a = some v) {index : Nat} (hlink : Cond.fieldLink y.cls index "ManyHandsModel" "leafMany" "[I" ∈ gtb) (hdg : decode cc pc = .ok (.getfield index, 3)) (kk : W p l e R s m args below meth c H locs cells slots Q (F0 m (pc + 3) ls (va_rf v :: rest))) : W p l e R s m args below meth c H locs cells slots Q (F0 m pc ls (.ref a :: rest)) := by
  obtain ⟨hk, rfl⟩ := gR_s hv
  exact w_get C hw inX7 rfl (by decide) hk 23 (by decide) hlink (fun _ h => h) rfl hdg kk
theorem pt_311 (C : mx p s m args meth c y cc nL rt A D cy st) (hw : HW A D cy sz sh d H) (hS : va_S A s.heap H locs) (hn : y.name = "<init>") (hcl : "ManyHandsModel" = y.cls) {v : Option Nat} (hv : pR sh d 9 311 a v = some d1) {index : Nat} (hlink : Cond.fieldLink y.cls index "ManyHandsModel" "leafMany" "[I" ∈ gtb) (hdg : decode cc pc = .ok (.putfield index, 3)) (kk : ∀ (H1 : Heap) (locs1 : List Loc), HW A D cy sz sh d1 H1 → va_S A s.heap H1 locs1 → W p l e R s m args below meth c H1 locs1 cells slots Q (F0 m (pc + 3) ls rest)) : W p l e R s m args below meth c H locs cells slots Q (F0 m pc ls (va_rf v :: .ref a :: rest)) := by
  obtain ⟨hk, rfl⟩ := pR_s hv
  exact w_put C hw hS inX7 tyX7 tyX7_ok nmX7 rfl (by decide) hk 23 (by decide) hlink (fun _ h => h) (Or.inr ⟨rfl, hn, hcl⟩) (by cases v <;> rfl) (by cases v <;> rfl) (Nat.le_of_ble_eq_true rfl) (by simp [wF, uR, u3, dfi, dfl, dfr]) (fun cj b hb => wF_R d _ _ _ cj b hb) rfl hdg kk
theorem gt_312 (C : mx p s m args meth c y cc nL rt A D cy st) (hw : HW A D cy sz sh d H) {v : Option Nat} (hv : gR sh d 9 312 a = some v) {index : Nat} (hlink : Cond.fieldLink y.cls index "ManyHandsModel" "isThere" "[Z" ∈ gtb) (hdg : decode cc pc = .ok (.getfield index, 3)) (kk : W p l e R s m args below meth c H locs cells slots Q (F0 m (pc + 3) ls (va_rf v :: rest))) : W p l e R s m args below meth c H locs cells slots Q (F0 m pc ls (.ref a :: rest)) := by
  obtain ⟨hk, rfl⟩ := gR_s hv
  exact w_get C hw inX7 rfl (by decide) hk 24 (by decide) hlink (fun _ h => h) rfl hdg kk
theorem pt_312 (C : mx p s m args meth c y cc nL rt A D cy st) (hw : HW A D cy sz sh d H) (hS : va_S A s.heap H locs) (hn : y.name = "<init>") (hcl : "ManyHandsModel" = y.cls) {v : Option Nat} (hv : pR sh d 9 312 a v = some d1) {index : Nat} (hlink : Cond.fieldLink y.cls index "ManyHandsModel" "isThere" "[Z" ∈ gtb) (hdg : decode cc pc = .ok (.putfield index, 3)) (kk : ∀ (H1 : Heap) (locs1 : List Loc), HW A D cy sz sh d1 H1 → va_S A s.heap H1 locs1 → W p l e R s m args below meth c H1 locs1 cells slots Q (F0 m (pc + 3) ls rest)) : W p l e R s m args below meth c H locs cells slots Q (F0 m pc ls (va_rf v :: .ref a :: rest)) := by
  obtain ⟨hk, rfl⟩ := pR_s hv
  exact w_put C hw hS inX7 tyX7 tyX7_ok nmX7 rfl (by decide) hk 24 (by decide) hlink (fun _ h => h) (Or.inr ⟨rfl, hn, hcl⟩) (by cases v <;> rfl) (by cases v <;> rfl) (Nat.le_of_ble_eq_true rfl) (by simp [wF, uR, u3, dfi, dfl, dfr]) (fun cj b hb => wF_R d _ _ _ cj b hb) rfl hdg kk
theorem gt_313 (C : mx p s m args meth c y cc nL rt A D cy st) (hw : HW A D cy sz sh d H) {v : Option Nat} (hv : gR sh d 9 313 a = some v) {index : Nat} (hlink : Cond.fieldLink y.cls index "ManyHandsModel" "leaf" "[J" ∈ gtb) (hdg : decode cc pc = .ok (.getfield index, 3)) (kk : W p l e R s m args below meth c H locs cells slots Q (F0 m (pc + 3) ls (va_rf v :: rest))) : W p l e R s m args below meth c H locs cells slots Q (F0 m pc ls (.ref a :: rest)) := by
  obtain ⟨hk, rfl⟩ := gR_s hv
  exact w_get C hw inX7 rfl (by decide) hk 25 (by decide) hlink (fun _ h => h) rfl hdg kk
theorem pt_313 (C : mx p s m args meth c y cc nL rt A D cy st) (hw : HW A D cy sz sh d H) (hS : va_S A s.heap H locs) (hn : y.name = "<init>") (hcl : "ManyHandsModel" = y.cls) {v : Option Nat} (hv : pR sh d 9 313 a v = some d1) {index : Nat} (hlink : Cond.fieldLink y.cls index "ManyHandsModel" "leaf" "[J" ∈ gtb) (hdg : decode cc pc = .ok (.putfield index, 3)) (kk : ∀ (H1 : Heap) (locs1 : List Loc), HW A D cy sz sh d1 H1 → va_S A s.heap H1 locs1 → W p l e R s m args below meth c H1 locs1 cells slots Q (F0 m (pc + 3) ls rest)) : W p l e R s m args below meth c H locs cells slots Q (F0 m pc ls (va_rf v :: .ref a :: rest)) := by
  obtain ⟨hk, rfl⟩ := pR_s hv
  exact w_put C hw hS inX7 tyX7 tyX7_ok nmX7 rfl (by decide) hk 25 (by decide) hlink (fun _ h => h) (Or.inr ⟨rfl, hn, hcl⟩) (by cases v <;> rfl) (by cases v <;> rfl) (Nat.le_of_ble_eq_true rfl) (by simp [wF, uR, u3, dfi, dfl, dfr]) (fun cj b hb => wF_R d _ _ _ cj b hb) rfl hdg kk
theorem gt_314 (C : mx p s m args meth c y cc nL rt A D cy st) (hw : HW A D cy sz sh d H) {v : Option Nat} (hv : gR sh d 9 314 a = some v) {index : Nat} (hlink : Cond.fieldLink y.cls index "ManyHandsModel" "copied" "[J" ∈ gtb) (hdg : decode cc pc = .ok (.getfield index, 3)) (kk : W p l e R s m args below meth c H locs cells slots Q (F0 m (pc + 3) ls (va_rf v :: rest))) : W p l e R s m args below meth c H locs cells slots Q (F0 m pc ls (.ref a :: rest)) := by
  obtain ⟨hk, rfl⟩ := gR_s hv
  exact w_get C hw inX7 rfl (by decide) hk 26 (by decide) hlink (fun _ h => h) rfl hdg kk
theorem pt_314 (C : mx p s m args meth c y cc nL rt A D cy st) (hw : HW A D cy sz sh d H) (hS : va_S A s.heap H locs) (hn : y.name = "<init>") (hcl : "ManyHandsModel" = y.cls) {v : Option Nat} (hv : pR sh d 9 314 a v = some d1) {index : Nat} (hlink : Cond.fieldLink y.cls index "ManyHandsModel" "copied" "[J" ∈ gtb) (hdg : decode cc pc = .ok (.putfield index, 3)) (kk : ∀ (H1 : Heap) (locs1 : List Loc), HW A D cy sz sh d1 H1 → va_S A s.heap H1 locs1 → W p l e R s m args below meth c H1 locs1 cells slots Q (F0 m (pc + 3) ls rest)) : W p l e R s m args below meth c H locs cells slots Q (F0 m pc ls (va_rf v :: .ref a :: rest)) := by
  obtain ⟨hk, rfl⟩ := pR_s hv
  exact w_put C hw hS inX7 tyX7 tyX7_ok nmX7 rfl (by decide) hk 26 (by decide) hlink (fun _ h => h) (Or.inr ⟨rfl, hn, hcl⟩) (by cases v <;> rfl) (by cases v <;> rfl) (Nat.le_of_ble_eq_true rfl) (by simp [wF, uR, u3, dfi, dfl, dfr]) (fun cj b hb => wF_R d _ _ _ cj b hb) rfl hdg kk
theorem gt_315 (C : mx p s m args meth c y cc nL rt A D cy st) (hw : HW A D cy sz sh d H) {v : Option Nat} (hv : gR sh d 9 315 a = some v) {index : Nat} (hlink : Cond.fieldLink y.cls index "ManyHandsModel" "copiedThere" "[Z" ∈ gtb) (hdg : decode cc pc = .ok (.getfield index, 3)) (kk : W p l e R s m args below meth c H locs cells slots Q (F0 m (pc + 3) ls (va_rf v :: rest))) : W p l e R s m args below meth c H locs cells slots Q (F0 m pc ls (.ref a :: rest)) := by
  obtain ⟨hk, rfl⟩ := gR_s hv
  exact w_get C hw inX7 rfl (by decide) hk 27 (by decide) hlink (fun _ h => h) rfl hdg kk
theorem pt_315 (C : mx p s m args meth c y cc nL rt A D cy st) (hw : HW A D cy sz sh d H) (hS : va_S A s.heap H locs) (hn : y.name = "<init>") (hcl : "ManyHandsModel" = y.cls) {v : Option Nat} (hv : pR sh d 9 315 a v = some d1) {index : Nat} (hlink : Cond.fieldLink y.cls index "ManyHandsModel" "copiedThere" "[Z" ∈ gtb) (hdg : decode cc pc = .ok (.putfield index, 3)) (kk : ∀ (H1 : Heap) (locs1 : List Loc), HW A D cy sz sh d1 H1 → va_S A s.heap H1 locs1 → W p l e R s m args below meth c H1 locs1 cells slots Q (F0 m (pc + 3) ls rest)) : W p l e R s m args below meth c H locs cells slots Q (F0 m pc ls (va_rf v :: .ref a :: rest)) := by
  obtain ⟨hk, rfl⟩ := pR_s hv
  exact w_put C hw hS inX7 tyX7 tyX7_ok nmX7 rfl (by decide) hk 27 (by decide) hlink (fun _ h => h) (Or.inr ⟨rfl, hn, hcl⟩) (by cases v <;> rfl) (by cases v <;> rfl) (Nat.le_of_ble_eq_true rfl) (by simp [wF, uR, u3, dfi, dfl, dfr]) (fun cj b hb => wF_R d _ _ _ cj b hb) rfl hdg kk
end
end
section
/-! words for the walks -/
def fu : Nat := 100000
theorem va_rf_c (r : Option Nat) : (va_rf r).category = 1 := by cases r <;> rfl
theorem cat_i (x : Int32) : (Value.int x).category = 1 := rfl
theorem cat_l (x : Int64) : (Value.long x).category = 2 := rfl
theorem cat_r (x : Nat) : (Value.ref x).category = 1 := rfl
abbrev GL (p : Program) (l : Launch) (e : Env) (s : State) (m : MethodId) (args : Array Value) (below : List Frame) (meth : Method) (c : Code) (fr lo : Nat) (A : Nat → Prop) (D : va_G) (cy : Nat → ClassId) (rv : Option Value) (sz : Nat) (sh : Sh) (d : Dt) (H : Heap) (locs : List Loc) (pc : Nat) (ls : Array Slot) (st : List Value) : Prop :=
  W p l e { frames := fr, cells := 0, slots := 0, locals := lo } s m args below meth c H locs 0 0 (MQ below (Qs A D cy rv sz sh d) args s 0 0 A) (F0 m pc ls st)
section
variable {p : Program} {l : Launch} {e : Env} {R : Room} {s : State} {m : MethodId} {args : Array Value} {below : List Frame} {meth : Method} {c : Code} {H : Heap} {locs : List Loc} {cells slots : Nat} {Q : State → Prop}
variable {y : MethodName} {cc : ByteArray} {nL : Nat} {rt : Option FieldType} {A : Nat → Prop} {D : va_G} {cy : Nat → ClassId} {st : Nat → Nat} {sz : Nat} {sh : Sh} {d d1 : Dt} {pc a : Nat} {ls : Array Slot} {rest : List Value}
variable {y1 : MethodName} {cc1 : ByteArray} {nL1 : Nat} {rt1 : Option FieldType} {fr lo mc ms b index ci : Nat} {As st0 : List Value} {rv : Option Value} {sz1 : Nat} {sh1 : Sh}
theorem lq_aload_n (hexec : p.tables.exec = Jvm.exec) (hb : c.code = cc) {k : Fin 4} {i : Nat} {x : Option Nat} (hdg : decode cc pc = .ok (.aload_n k, 1)) (hi : (k : Nat) = i) (hl : ls[i]? = some (.val (va_rf x)))
    (kk : W p l e R s m args below meth c H locs cells slots Q (F0 m (pc + 1) ls (va_rf x :: rest))) : W p l e R s m args below meth c H locs cells slots Q (F0 m pc ls rest) := by
  cases x with
  | none => exact lv_aload_nN hexec hb hdg hi hl kk
  | some x => exact lv_aload_n hexec hb hdg hi hl kk
theorem lq_aload (hexec : p.tables.exec = Jvm.exec) (hb : c.code = cc) {i : Nat} {x : Option Nat} (hdg : decode cc pc = .ok (.aload i, 2)) (hl : ls[i]? = some (.val (va_rf x)))
    (kk : W p l e R s m args below meth c H locs cells slots Q (F0 m (pc + 2) ls (va_rf x :: rest))) : W p l e R s m args below meth c H locs cells slots Q (F0 m pc ls rest) := by
  cases x with
  | none => exact lv_aloadN hexec hb hdg hl kk
  | some x => exact lv_aload hexec hb hdg hl kk
theorem lq_astore_n (hexec : p.tables.exec = Jvm.exec) (hb : c.code = cc) {k : Fin 4} {i nL : Nat} {x : Option Nat} {lv lv' : List (Nat × Value)} (hdg : decode cc pc = .ok (.astore_n k, 1)) (hi : (k : Nat) = i) (h : lv_has ls nL lv) (hn : i < nL) (hl : (i, va_rf x) :: lv.filter (fun q => !(q.1 == i) && !(q.1 + 1 == i && q.2.category == 2)) = lv')
    (kk : ∀ ls' : Array Slot, lv_has ls' nL lv' → W p l e R s m args below meth c H locs cells slots Q (F0 m (pc + 1) ls' rest)) : W p l e R s m args below meth c H locs cells slots Q (F0 m pc ls (va_rf x :: rest)) := by
  cases x with
  | none => exact lv_astore_nN hexec hb hdg hi h hn hl kk
  | some x => exact lv_astore_n hexec hb hdg hi h hn hl kk
theorem lq_astore (hexec : p.tables.exec = Jvm.exec) (hb : c.code = cc) {i nL : Nat} {x : Option Nat} {lv lv' : List (Nat × Value)} (hdg : decode cc pc = .ok (.astore i, 2)) (h : lv_has ls nL lv) (hn : i < nL) (hl : (i, va_rf x) :: lv.filter (fun q => !(q.1 == i) && !(q.1 + 1 == i && q.2.category == 2)) = lv')
    (kk : ∀ ls' : Array Slot, lv_has ls' nL lv' → W p l e R s m args below meth c H locs cells slots Q (F0 m (pc + 2) ls' rest)) : W p l e R s m args below meth c H locs cells slots Q (F0 m pc ls (va_rf x :: rest)) := by
  cases x with
  | none => exact lv_astoreN hexec hb hdg h hn hl kk
  | some x => exact lv_astore hexec hb hdg h hn hl kk
theorem cl_V0 (C : mx p s m args meth c y cc nL rt A D cy st) (hw : HW A D cy sz sh d H) (hS : va_S A s.heap H locs) (hc : Ct l y1 cc1 nL1 rt1 fr lo 0 0 A D cy st (.ref b :: As) sz sh d rv sz1 sh1 d1) (V : CV y1 cc1 nL1 rt1 ci As.length) (hlink : Cond.methodLink y.cls index y1 ∈ gtb) (hk : sh.1 b = ci + 1) (hR : fr + 1 ≤ R.frames ∧ 8 + (nL1 + 11) + lo ≤ R.locals) (hls : ls.size = nL) (hst : st0 = As.reverse ++ .ref b :: rest) (hW : (rest.map fun v => v.category).sum ≤ 8) (hdg : decode cc pc = .ok (.invokevirtual index, 3)) (hf : cells ≤ R.cells ∧ slots ≤ R.slots)
    (kk : ∀ (H1 : Heap) (locs1 : List Loc), HW A D cy sz1 sh1 d1 H1 → va_S A s.heap H1 locs1 → W p l e R s m args below meth c H1 locs1 cells slots Q (F0 m (pc + 3) ls (rv.toList ++ rest))) : W p l e R s m args below meth c H locs cells slots Q (F0 m pc ls st0) := cl_V C hw hS hc V hlink hk hR hls hst hW hdg hf kk
theorem cl_S0 (C : mx p s m args meth c y cc nL rt A D cy st) (hw : HW A D cy sz sh d H) (hS : va_S A s.heap H locs) (hc : Ct l y1 cc1 nL1 rt1 fr lo 0 0 A D cy st As sz sh d rv sz1 sh1 d1) (V : CS y1 cc1 nL1 rt1 As.length) (hlink : Cond.methodLink y.cls index y1 ∈ gtb) (hR : fr + 1 ≤ R.frames ∧ 8 + (nL1 + 11) + lo ≤ R.locals) (hls : ls.size = nL) (hst : st0 = As.reverse ++ rest) (hW : (rest.map fun v => v.category).sum ≤ 8) (hdg : decode cc pc = .ok (.invokestatic index, 3)) (hf : cells ≤ R.cells ∧ slots ≤ R.slots)
    (kk : ∀ (H1 : Heap) (locs1 : List Loc), HW A D cy sz1 sh1 d1 H1 → va_S A s.heap H1 locs1 → W p l e R s m args below meth c H1 locs1 cells slots Q (F0 m (pc + 3) ls (rv.toList ++ rest))) : W p l e R s m args below meth c H locs cells slots Q (F0 m pc ls st0) := cl_S C hw hS hc V hlink hR hls hst hW hdg hf kk
theorem cl_SN0 {host : String} (C : mx p s m args meth c y cc nL rt A D cy st) (hw : HW A D cy sz sh d H) (hS : va_S A s.heap H locs) (hc : Ct l y1 cc1 nL1 rt1 fr lo 0 0 A D cy st As sz sh d rv sz1 sh1 d1) (V : CS y1 cc1 nL1 rt1 As.length) (hlink : Cond.methodLinkNest y.cls index y1 host ∈ nws) (hR : fr + 1 ≤ R.frames ∧ 8 + (nL1 + 11) + lo ≤ R.locals) (hls : ls.size = nL) (hst : st0 = As.reverse ++ rest) (hW : (rest.map fun v => v.category).sum ≤ 8) (hdg : decode cc pc = .ok (.invokestatic index, 3)) (hf : cells ≤ R.cells ∧ slots ≤ R.slots)
    (kk : ∀ (H1 : Heap) (locs1 : List Loc), HW A D cy sz1 sh1 d1 H1 → va_S A s.heap H1 locs1 → W p l e R s m args below meth c H1 locs1 cells slots Q (F0 m (pc + 3) ls (rv.toList ++ rest))) : W p l e R s m args below meth c H locs cells slots Q (F0 m pc ls st0) := cl_SN C hw hS hc V hlink hR hls hst hW hdg hf kk
end
end
section
/-! making cells: the next one's address is the heap's size -/
abbrev Wl : Type := Nat × Nat × Sh × Dt
def nsh (sh : Sh) (a kd n : Nat) : Sh := (va_up sh.1 a kd, va_up sh.2 a n)
def zO (d : Dt) (a : Nat) : Dt := (fun k b => if b = a then 0 else d.1 k b, fun k b => if b = a then 0 else d.2.1 k b, fun k b => if b = a then none else d.2.2.1 k b, d.2.2.2)
def zA (d : Dt) (a : Nat) : Dt := (d.1, d.2.1, d.2.2.1, fun b => if b = a then (fun _ => 0) else d.2.2.2.1 b, fun b => if b = a then (fun _ => 0) else d.2.2.2.2.1 b, fun b => if b = a then (fun _ => none) else d.2.2.2.2.2 b)
def nwO (sz ns : Nat) (sh : Sh) (d : Dt) (kd N : Nat) : Option Wl := some (sz + 1, ns + N, nsh sh sz kd 0, zO d sz)
def nwA (sz ns : Nat) (sh : Sh) (d : Dt) (kd : Nat) (n : Int32) : Option Wl := if n < 0 then none else if 100000 < n.toNatClampNeg then none else some (sz + 1, ns + n.toNatClampNeg, nsh sh sz kd n.toNatClampNeg, zA d sz)
def bw {β : Type} (x : Option Wl) (k : Nat → Nat → Sh → Dt → Option β) : Option β := match x with
  | none => none
  | some q => k q.1 q.2.1 q.2.2.1 q.2.2.2
def bw2 {α β : Type} (x : Option (α × Wl)) (k : α → Nat → Nat → Sh → Dt → Option β) : Option β := match x with
  | none => none
  | some q => k q.1 q.2.1 q.2.2.1 q.2.2.2.1 q.2.2.2.2
theorem bw_s {β : Type} {x : Option Wl} {k : Nat → Nat → Sh → Dt → Option β} {r : β} (h : bw x k = some r) : ∃ sz ns sh d, x = some (sz, ns, sh, d) ∧ k sz ns sh d = some r := by
  cases x with
  | none => cases h
  | some q => exact ⟨q.1, q.2.1, q.2.2.1, q.2.2.2, rfl, h⟩
theorem bw2_s {α β : Type} {x : Option (α × Wl)} {k : α → Nat → Nat → Sh → Dt → Option β} {r : β} (h : bw2 x k = some r) : ∃ v sz ns sh d, x = some (v, sz, ns, sh, d) ∧ k v sz ns sh d = some r := by
  cases x with
  | none => cases h
  | some q => exact ⟨q.1, q.2.1, q.2.2.1, q.2.2.2.1, q.2.2.2.2, rfl, h⟩
theorem bw_v {β : Type} (sz ns : Nat) (sh : Sh) (d : Dt) (k : Nat → Nat → Sh → Dt → Option β) : bw (some (sz, ns, sh, d)) k = k sz ns sh d := rfl
theorem bw2_v {α β : Type} (v : α) (sz ns : Nat) (sh : Sh) (d : Dt) (k : α → Nat → Nat → Sh → Dt → Option β) : bw2 (some (v, sz, ns, sh, d)) k = k v sz ns sh d := rfl
theorem nwO_s {sz ns sz1 ns1 kd N : Nat} {sh sh1 : Sh} {d d1 : Dt} (h : nwO sz ns sh d kd N = some (sz1, ns1, sh1, d1)) : sz1 = sz + 1 ∧ ns1 = ns + N ∧ nsh sh sz kd 0 = sh1 ∧ zO d sz = d1 := by
  have h := Option.some.inj h
  simp only [Prod.mk.injEq] at h
  exact ⟨h.1.symm, h.2.1.symm, h.2.2.1, h.2.2.2⟩
theorem nwA_s {sz ns sz1 ns1 kd : Nat} {n : Int32} {sh sh1 : Sh} {d d1 : Dt} (h : nwA sz ns sh d kd n = some (sz1, ns1, sh1, d1)) : ¬ n < 0 ∧ n.toNatClampNeg ≤ 100000 ∧ sz1 = sz + 1 ∧ ns1 = ns + n.toNatClampNeg ∧ nsh sh sz kd n.toNatClampNeg = sh1 ∧ zA d sz = d1 := by
  unfold nwA at h
  split at h
  · cases h
  · split at h
    · cases h
    · rename_i h1 h2
      have h := Option.some.inj h
      simp only [Prod.mk.injEq] at h
      exact ⟨h1, by omega, h.1.symm, h.2.1.symm, h.2.2.1, h.2.2.2⟩
/-- a cast, a store of a reference: null passes, an object must be of the kind -/
def cst (sh : Sh) (kd : Nat) (r : Option Nat) : Option Unit := on r (some ()) (fun a => kc sh kd a)
/-- copies -/
def uCI (d : Dt) (a : Nat) (f : Nat → Int32) : Dt := (d.1, d.2.1, d.2.2.1, fun b => if b = a then f else d.2.2.2.1 b, d.2.2.2.2)
def uCL (d : Dt) (a : Nat) (f : Nat → Int64) : Dt := (d.1, d.2.1, d.2.2.1, d.2.2.2.1, fun b => if b = a then f else d.2.2.2.2.1 b, d.2.2.2.2.2)
def uCR (d : Dt) (a : Nat) (f : Nat → Option Nat) : Dt := (d.1, d.2.1, d.2.2.1, d.2.2.2.1, d.2.2.2.2.1, fun b => if b = a then f else d.2.2.2.2.2 b)
def cpk (sh : Sh) (kd a0 : Nat) (sp : Int32) (a : Nat) (dp n : Int32) : Bool := decide (sh.1 a0 = kd) && decide (sh.1 a = kd) && decide (¬ sp < 0) && decide (¬ dp < 0) && decide (¬ n < 0) && decide (sp.toNatClampNeg + n.toNatClampNeg ≤ sh.2 a0) && decide (dp.toNatClampNeg + n.toNatClampNeg ≤ sh.2 a)
theorem cpk_s {sh : Sh} {kd a0 a : Nat} {sp dp n : Int32} (h : cpk sh kd a0 sp a dp n = true) : sh.1 a0 = kd ∧ sh.1 a = kd ∧ ¬ sp < 0 ∧ ¬ dp < 0 ∧ ¬ n < 0 ∧ sp.toNatClampNeg + n.toNatClampNeg ≤ sh.2 a0 ∧ dp.toNatClampNeg + n.toNatClampNeg ≤ sh.2 a := by
  simp only [cpk, Bool.and_eq_true, decide_eq_true_eq] at h
  exact ⟨h.1.1.1.1.1.1, h.1.1.1.1.1.2, h.1.1.1.1.2, h.1.1.1.2, h.1.1.2, h.1.2, h.2⟩
def cpI (sh : Sh) (d : Dt) (a0 : Nat) (sp : Int32) (a : Nat) (dp n : Int32) : Option Dt := if cpk sh 20 a0 sp a dp n = true then some (uCI d a (va_cpy (dai d a0) (dai d a) sp.toNatClampNeg dp.toNatClampNeg n.toNatClampNeg)) else none
def cpL (sh : Sh) (d : Dt) (a0 : Nat) (sp : Int32) (a : Nat) (dp n : Int32) : Option Dt := if cpk sh 21 a0 sp a dp n = true then some (uCL d a (va_cpy (dal d a0) (dal d a) sp.toNatClampNeg dp.toNatClampNeg n.toNatClampNeg)) else none
def cpE (sh : Sh) (d : Dt) (a0 : Nat) (sp n : Int32) : Bool := (List.range n.toNatClampNeg).all (fun i => on (dar d a0 (sp.toNatClampNeg + i)) true (fun y => decide (sh.1 y = 2)))
def cpR (sh : Sh) (d : Dt) (a0 : Nat) (sp : Int32) (a : Nat) (dp n : Int32) : Option Dt := if cpk sh 26 a0 sp a dp n = true ∧ cpE sh d a0 sp n = true then some (uCR d a (va_cpy (dar d a0) (dar d a) sp.toNatClampNeg dp.toNatClampNeg n.toNatClampNeg)) else none
/-- the table ABOVE; the length of a list's row -/
def abv (i : Int32) : Option Int32 := if i < 0 then none else if 8 ≤ i.toNatClampNeg then none else some (([0, 0, 2, 3, 0, 2, 6, 6] : List Int32).getD i.toNatClampNeg 0)
def lnE (sh : Sh) (em a : Nat) : Option Int32 := if a = em then some 0 else lnA sh 26 a
section
variable {p : Program} {l : Launch} {e : Env} {R : Room} {s : State} {m : MethodId} {args : Array Value} {below : List Frame} {meth : Method} {c : Code} {H : Heap} {locs : List Loc} {cells slots : Nat} {Q : State → Prop}
variable {y : MethodName} {cc : ByteArray} {nL : Nat} {rt : Option FieldType} {A : Nat → Prop} {D : va_G} {cy : Nat → ClassId} {st : Nat → Nat} {sz : Nat} {sh : Sh} {d d1 : Dt} {pc a : Nat} {ls : Array Slot} {rest : List Value}
variable {sz1 ns ns1 : Nat} {sh1 : Sh}
theorem HW.lt (h : HW A D cy sz sh d H) {a : Nat} (ha : sh.1 a ≠ 0) : a < sz := by
  have := (h.2 a ha).2.lt
  rw [h.1] at this
  exact this
theorem HW.made {H1 : Heap} {kd n : Nat} (h : HW A D cy sz sh d H) (hA : A sz) (hz : H1.size = sz + 1) (ho : ∀ q, q < sz → H1[q]? = H[q]?) (hn : va_at D vwCl (sz, wE cy (nsh sh sz kd n) d1 sz) H1) (he : ∀ b, b ≠ sz → wE cy (nsh sh sz kd n) d1 b = wE cy sh d b) : HW A D cy (sz + 1) (nsh sh sz kd n) d1 H1 := by
  refine ⟨hz, fun b hb => ?_⟩
  by_cases hbs : b = sz
  · subst hbs; exact ⟨hA, hn⟩
  · have hb' : sh.1 b ≠ 0 := by
      simp only [nsh, va_up_ne _ _ hbs] at hb; exact hb
    refine ⟨(h.2 b hb').1, ?_⟩
    rw [he b hbs]
    exact (h.2 b hb').2.kept (ho b (h.lt hb'))
theorem nsh_self (sh : Sh) (a kd n : Nat) : (nsh sh a kd n).1 a = kd := va_up_self _ _ _
theorem nsh_self2 (sh : Sh) (a kd n : Nat) : (nsh sh a kd n).2 a = n := va_up_self _ _ _
theorem wE_nO {kd n b : Nat} (hb : b ≠ a) : wE cy (nsh sh a kd n) (zO d a) b = wE cy sh d b := by
  unfold wE
  simp only [nsh, va_up_ne _ _ hb]
  have e1 : ∀ ci, wF (zO d a) ci b = wF d ci b := by intro ci; unfold wF; split <;> simp [zO, dfi, dfl, dfr, hb]
  rw [e1]; rfl
theorem wE_nA {kd n b : Nat} (hb : b ≠ a) : wE cy (nsh sh a kd n) (zA d a) b = wE cy sh d b := by
  unfold wE
  simp only [nsh, va_up_ne _ _ hb]
  have e1 : dai (zA d a) b = dai d b := by simp [dai, zA, hb]
  have e2 : dal (zA d a) b = dal d b := by simp [dal, zA, hb]
  have e3 : dar (zA d a) b = dar d b := by simp [dar, zA, hb]
  rw [e1, e2, e3]; rfl
theorem w_new (C : mx p s m args meth c y cc nL rt A D cy st) (hw : HW A D cy sz sh d H) (hS : va_S A s.heap H locs) {ci : Nat} {Cn : String} {T : u_T} {N index : Nat} (hin : ∀ w ∈ u_ws Cn T N, w ∈ gtb) (ty : Nat → FieldType) (hty : ∀ k, k < N → parseFieldDescriptor (T k).2.2.1 = some (ty k)) (hc : vwCl[ci]? = some (Cn, T, N)) (hci : ci < 19) (hfs : ∀ (d : Dt) (a j : Nat), j < N → defaultValue (ty j) = vp_V (wF (zO d a) ci a) j) (hcl : Cond.classLink y.cls index Cn ∈ gtb) (hinst : Cond.instantiable Cn N ∈ gtb) (hini : Cond.initialized Cn ∈ gtb)
    (h : nwO sz ns sh d (ci + 1) N = some (sz1, ns1, sh1, d1)) (hcells : cells + 1 ≤ R.cells) (hslots : slots + N ≤ R.slots) (hdg : decode cc pc = .ok (.new index, 3))
    (kk : ∀ (H1 : Heap), HW A D cy sz1 sh1 d1 H1 → va_S A s.heap H1 locs → W p l e R s m args below meth c H1 locs (cells + 1) (slots + N) Q (F0 m (pc + 3) ls (.ref sz :: rest))) : W p l e R s m args below meth c H locs cells slots Q (F0 m pc ls rest) := by
  obtain ⟨hx, hb, -, -, hts, ho, -, hK, hA0, -⟩ := C
  obtain ⟨rfl, rfl, rfl, rfl⟩ := nwO_s h
  have hsz := hw.1
  have hA : A sz := hA0 sz (by have := hS.1; omega)
  have hKn := hK.1.1 ci _ hc
  refine W.newcK hx hb ho (hts _ hcl) (hts _ hinst) (hts _ hini) rfl hdg hcells hslots hKn.2.1 hsz fun H1 kC hkC e1 z1 o1 => ?_
  refine kk H1 (hw.made hA z1 o1 ?_ (fun b hb => wE_nO hb)) ⟨Nat.le_trans hS.1 (by omega), fun x h1 h2 => (o1 x (by have := hS.1; omega)).trans (hS.2.1 x h1 h2), hS.2.2⟩
  rw [wE_o ci (nsh_self _ _ _ _) hci]
  exact ⟨_, hc, (u_born ty hts hin hKn hkC e1 hty).to (hfs d sz)⟩
theorem w_newa (C : mx p s m args meth c y cc nL rt A D cy st) (hw : HW A D cy sz sh d H) (hS : va_S A s.heap H locs) {kd : Nat} (t : Nat) {atype : ArrayType} {ty : FieldType} (hkd : kd = t + 20) (harr : Cond.arrayClass (newarray.typeOf atype) ∈ gtb) (hty : newarray.typeOf atype = ty) (ht : (tysA cy)[t]? = some (cy t, ty)) (hra : ∀ cA, va_RA s cA ty → s.vm.findClass ("[" ++ ty.toString) = some cA) (hb8 : componentBytes ty ≤ 8) (hcell : ∀ (sh : Sh) (d : Dt) (a n : Nat), ∃ x : vp_A, wE cy (nsh sh a kd n) (zA d a) a = .inl (cy t, x) ∧ vp_cell (cy t) x = arrV (cy t) n (fun _ => defaultValue ty)) {n : Int32}
    (h : nwA sz ns sh d kd n = some (sz1, ns1, sh1, d1)) (hcells : cells + 1 ≤ R.cells) (hslots : slots + n.toNatClampNeg ≤ R.slots) (hdg : decode cc pc = .ok (.newarray atype, 2))
    (kk : ∀ (H1 : Heap), HW A D cy sz1 sh1 d1 H1 → va_S A s.heap H1 locs → W p l e R s m args below meth c H1 locs (cells + 1) (slots + n.toNatClampNeg) Q (F0 m (pc + 2) ls (.ref sz :: rest))) : W p l e R s m args below meth c H locs cells slots Q (F0 m pc ls (.int n :: rest)) := by
  obtain ⟨hx, hb, -, -, hts, ho, -, hK, hA0, -⟩ := C
  obtain ⟨hn0, hn1, rfl, rfl, rfl, rfl⟩ := nwA_s h
  have hsz := hw.1
  have hA : A sz := hA0 sz (by have := hS.1; omega)
  have hk1 := (hK.1.2 t _ ht).2
  subst hty
  refine va_newaK hx hb (hts _ harr) rfl hdg rfl hn0 rfl (Nat.le_trans (Nat.mul_le_mul hn1 hb8) (by decide)) hcells hslots hsz fun H1 cA e1 z1 o1 hAr hNm => ?_
  have hcA : cA = cy t := Option.some.inj (hNm.symm.trans (hra _ hk1))
  subst hcA
  refine kk H1 (hw.made hA z1 o1 ?_ (fun b hb => wE_nA hb)) ⟨Nat.le_trans hS.1 (by omega), fun x h1 h2 => (o1 x (by have := hS.1; omega)).trans (hS.2.1 x h1 h2), hS.2.2⟩
  obtain ⟨x, hx1, hx2⟩ := hcell sh d sz n.toNatClampNeg
  rw [hx1]
  show H1[sz]? = some (vp_cell _ _)
  rw [hx2]
  exact e1
theorem w_newI (C : mx p s m args meth c y cc nL rt A D cy st) (hw : HW A D cy sz sh d H) (hS : va_S A s.heap H locs) {n : Int32} (harr : Cond.arrayClass .int ∈ gtb)
    (h : nwA sz ns sh d 20 n = some (sz1, ns1, sh1, d1)) (hcells : cells + 1 ≤ R.cells) (hslots : slots + n.toNatClampNeg ≤ R.slots) (hdg : decode cc pc = .ok (.newarray .int, 2))
    (kk : ∀ (H1 : Heap), HW A D cy sz1 sh1 d1 H1 → va_S A s.heap H1 locs → W p l e R s m args below meth c H1 locs (cells + 1) (slots + n.toNatClampNeg) Q (F0 m (pc + 2) ls (.ref sz :: rest))) : W p l e R s m args below meth c H locs cells slots Q (F0 m pc ls (.int n :: rest)) :=
  w_newa (atype := .int) C hw hS 0 rfl harr rfl rfl (fun _ h => h) (by decide) (fun sh d a n => ⟨(n, .inl fun _ => 0), by rw [wE_i (nsh_self _ _ _ _), nsh_self2]; simp [dai, zA], rfl⟩) h hcells hslots hdg kk
theorem w_newJ (C : mx p s m args meth c y cc nL rt A D cy st) (hw : HW A D cy sz sh d H) (hS : va_S A s.heap H locs) {n : Int32} (harr : Cond.arrayClass .long ∈ gtb)
    (h : nwA sz ns sh d 21 n = some (sz1, ns1, sh1, d1)) (hcells : cells + 1 ≤ R.cells) (hslots : slots + n.toNatClampNeg ≤ R.slots) (hdg : decode cc pc = .ok (.newarray .long, 2))
    (kk : ∀ (H1 : Heap), HW A D cy sz1 sh1 d1 H1 → va_S A s.heap H1 locs → W p l e R s m args below meth c H1 locs (cells + 1) (slots + n.toNatClampNeg) Q (F0 m (pc + 2) ls (.ref sz :: rest))) : W p l e R s m args below meth c H locs cells slots Q (F0 m pc ls (.int n :: rest)) :=
  w_newa (atype := .long) C hw hS 1 rfl harr rfl rfl (fun _ h => h) (by decide) (fun sh d a n => ⟨(n, .inr (.inl fun _ => 0)), by rw [wE_j (nsh_self _ _ _ _), nsh_self2]; simp [dal, zA], rfl⟩) h hcells hslots hdg kk
theorem w_newZ (C : mx p s m args meth c y cc nL rt A D cy st) (hw : HW A D cy sz sh d H) (hS : va_S A s.heap H locs) {n : Int32} (harr : Cond.arrayClass .boolean ∈ gtb)
    (h : nwA sz ns sh d 22 n = some (sz1, ns1, sh1, d1)) (hcells : cells + 1 ≤ R.cells) (hslots : slots + n.toNatClampNeg ≤ R.slots) (hdg : decode cc pc = .ok (.newarray .boolean, 2))
    (kk : ∀ (H1 : Heap), HW A D cy sz1 sh1 d1 H1 → va_S A s.heap H1 locs → W p l e R s m args below meth c H1 locs (cells + 1) (slots + n.toNatClampNeg) Q (F0 m (pc + 2) ls (.ref sz :: rest))) : W p l e R s m args below meth c H locs cells slots Q (F0 m pc ls (.int n :: rest)) :=
  w_newa (atype := .boolean) C hw hS 2 rfl harr rfl rfl (fun _ h => h) (by decide) (fun sh d a n => ⟨(n, .inl fun _ => 0), by rw [wE_z (nsh_self _ _ _ _), nsh_self2]; simp [dai, zA], rfl⟩) h hcells hslots hdg kk
theorem w_newq (C : mx p s m args meth c y cc nL rt A D cy st) (hw : HW A D cy sz sh d H) (hS : va_S A s.heap H locs) {kd index : Nat} (t : Nat) {Cn : String} (hkd : kd = t + 20) (ht3 : 3 ≤ t) (hcl : Cond.classLink y.cls index Cn ∈ gtb) (hover : va_AO Cn s) (ht : (tysA cy)[t]? = some (cy t, .object Cn)) {n : Int32}
    (h : nwA sz ns sh d kd n = some (sz1, ns1, sh1, d1)) (hcells : cells + 1 ≤ R.cells) (hslots : slots + n.toNatClampNeg ≤ R.slots) (hdg : decode cc pc = .ok (.anewarray index, 3))
    (kk : ∀ (H1 : Heap), HW A D cy sz1 sh1 d1 H1 → va_S A s.heap H1 locs → W p l e R s m args below meth c H1 locs (cells + 1) (slots + n.toNatClampNeg) Q (F0 m (pc + 3) ls (.ref sz :: rest))) : W p l e R s m args below meth c H locs cells slots Q (F0 m pc ls (.int n :: rest)) := by
  obtain ⟨hx, hb, -, -, hts, ho, -, hK, hA0, -⟩ := C
  obtain ⟨hn0, hn1, rfl, rfl, rfl, rfl⟩ := nwA_s h
  have hsz := hw.1
  have hA : A sz := hA0 sz (by have := hS.1; omega)
  obtain ⟨kA', comp', g1, g2, g3, g4⟩ := (hK.1.2 t _ ht).2
  refine W.anew hx hb ho (hts _ hcl) (va_AO.use hover) rfl hdg rfl hn0 (by omega) hcells hslots fun cA kA comp f1 f2 f3 f4 => ?_
  have hcA : cA = cy t := Option.some.inj (f1.symm.trans g4)
  subst hcA
  rw [hsz]
  generalize hH1 : H.push ({ cls := cy t, slots := Array.replicate n.toNatClampNeg .null, vm := .none } : Cell) = H1
  have z1 : H1.size = sz + 1 := by rw [← hH1, Array.size_push, hsz]
  have e1 : H1[sz]? = some (arrV (cy t) n.toNatClampNeg (fun _ => .null)) := by rw [← hH1, ← hsz, Array.getElem?_push_size, ← arrV_new]
  have o1 : ∀ q : Nat, q < sz → H1[q]? = H[q]? := fun q hq => by rw [← hH1, Array.getElem?_push, if_neg (by omega)]
  refine kk H1 (hw.made hA z1 o1 ?_ (fun b hb => wE_nA hb)) ⟨Nat.le_trans hS.1 (by omega), fun x h1 h2 => (o1 x (by have := hS.1; omega)).trans (hS.2.1 x h1 h2), hS.2.2⟩
  rw [wE_r t (by rw [nsh_self]; exact hkd) ht3, nsh_self2]
  show H1[sz]? = some (vp_cell _ _)
  rw [vp_cell_q, e1]
  congr 2
  funext j
  simp [dar, zA, va_rf]
theorem w_recv (C : mx p s m args meth c y cc nL rt A D cy st) (hw : HW A D cy sz sh d H) {ci : Nat} {r : vw_C} (hc : vwCl[ci]? = some r) (hci : ci < 19) (hk : sh.1 a = ci + 1) : ∃ cell : Cell, H[a]? = some cell ∧ cell.vm.isStatics = false ∧ s.vm.findClass r.1 = some cell.cls :=
  va_recv C.2.2.2.2.2.2.2.1.1 (hw.ats (by omega) (wE_o ci hk hci)) hc (q0 := 0) rfl
theorem w_aast0 (C : mx p s m args meth c y cc nL rt A D cy st) (hw : HW A D cy sz sh d H) (hS : va_S A s.heap H locs) {kd v ci : Nat} {r : vw_C} (t : Nat) {Cn : String} (ht : kd = t + 20) (ht3 : 3 ≤ t) (hty : (tysA cy)[t]? = some (cy t, .object Cn)) (hc : vwCl[ci]? = some r) (hci : ci < 19) (hkv : sh.1 v = ci + 1) (hasg : ∀ comp c0 : ClassId, s.vm.findClass Cn = some comp → s.vm.findClass r.1 = some c0 → s.vm.assignable c0 comp = true) {i : Int32} (hv : sR sh d kd a i (some v) = some d1) (hdg : decode cc pc = .ok (.aastore, 1))
    (kk : ∀ (H1 : Heap) (locs1 : List Loc), HW A D cy sz sh d1 H1 → va_S A s.heap H1 locs1 → W p l e R s m args below meth c H1 locs1 cells slots Q (F0 m (pc + 1) ls rest)) : W p l e R s m args below meth c H locs cells slots Q (F0 m pc ls (.ref v :: .int i :: .ref a :: rest)) := by
  obtain ⟨cellV, g1, g3, g2⟩ := w_recv C hw hc hci hkv
  obtain ⟨hx, hb, -, -, -, -, -, hK, -⟩ := C
  obtain ⟨j, hj, he⟩ := bd_s hv
  obtain ⟨hk, hi, rfl⟩ := ix_s hj
  cases he
  subst ht
  have ha := hw.2 a (by omega)
  rw [wE_r t hk ht3] at ha
  have hlt : i.toNatClampNeg < sh.2 a := Nat.not_le.mp fun q => hi (Or.inr q)
  have h0 : ¬ i < 0 := fun q => hi (Or.inl q)
  obtain ⟨kA, comp, k1, k2, k3, -⟩ := (hK.1.2 t _ hty).2
  obtain ⟨kE, hkE, -⟩ := Vm.findClass_spec k3
  obtain ⟨kC, hkC, -⟩ := Vm.findClass_spec g2
  refine W.aast hx hb ha.2 (fun q h => by cases h) (fun h => by cases h) k1 k2 rfl hkE ⟨h0, by show _ < (arrV _ _ _).slots.size; rw [arrV_size]; exact hlt⟩ g1 (fun q h => by rw [h] at g3; cases g3) hkC (hasg _ _ k3 g2) rfl rfl hdg fun H1 e z oq => ?_
  refine kk H1 _ (hw.set z oq ?_ (fun b hb => wE_AR hb)) (hS.put z oq ha.1)
  rw [wE_r t hk ht3]
  show H1[a]? = some (vp_cell _ _)
  rw [e, vp_cell_q, vp_cell_q, arrV_store]
  congr 2
  funext q
  by_cases hq : q = i.toNatClampNeg
  · subst hq
    simp [updV, dar, uAR, u3, va_rf]
  · simp [updV, dar, uAR, u3, hq]
theorem w_aastN (C : mx p s m args meth c y cc nL rt A D cy st) (hw : HW A D cy sz sh d H) (hS : va_S A s.heap H locs) {kd : Nat} (t : Nat) {Cn : String} (ht : kd = t + 20) (ht3 : 3 ≤ t) (hty : (tysA cy)[t]? = some (cy t, .object Cn)) {i : Int32} (hv : sR sh d kd a i none = some d1) (hdg : decode cc pc = .ok (.aastore, 1))
    (kk : ∀ (H1 : Heap) (locs1 : List Loc), HW A D cy sz sh d1 H1 → va_S A s.heap H1 locs1 → W p l e R s m args below meth c H1 locs1 cells slots Q (F0 m (pc + 1) ls rest)) : W p l e R s m args below meth c H locs cells slots Q (F0 m pc ls (.null :: .int i :: .ref a :: rest)) := by
  obtain ⟨hx, hb, -, -, -, -, -, hK, -⟩ := C
  obtain ⟨j, hj, he⟩ := bd_s hv
  obtain ⟨hk, hi, rfl⟩ := ix_s hj
  cases he
  subst ht
  have ha := hw.2 a (by omega)
  rw [wE_r t hk ht3] at ha
  refine va_WaastN (C := Cn) hx hb ha.2 ((hK.1.2 t _ hty).1 (sh.2 a) (fun j => va_rf (dar d a j))) (fun h => by cases h) (by show ¬ (i < 0 ∨ (arrV _ _ _).slots.size ≤ _); rw [arrV_size]; exact hi) rfl rfl hdg fun H1 e z oq => ?_
  refine kk H1 _ (hw.set z oq ?_ (fun b hb => wE_AR hb)) (hS.put z oq ha.1)
  rw [wE_r t hk ht3]
  show H1[a]? = some (vp_cell _ _)
  rw [e, vp_cell_q, vp_cell_q, arrV_store]
  congr 2
  funext q
  by_cases hq : q = i.toNatClampNeg
  · subst hq
    simp [updV, dar, uAR, u3, va_rf]
  · simp [updV, dar, uAR, u3, hq]
/-- a store of a reference or null; the value is of the class ci -/
theorem w_aast (C : mx p s m args meth c y cc nL rt A D cy st) (hw : HW A D cy sz sh d H) (hS : va_S A s.heap H locs) {kd ci : Nat} {r : vw_C} (t : Nat) {Cn : String} (ht : kd = t + 20) (ht3 : 3 ≤ t) (hty : (tysA cy)[t]? = some (cy t, .object Cn)) (hc : vwCl[ci]? = some r) (hci : ci < 19) {v : Option Nat} {u : Unit} (hkv : cst sh (ci + 1) v = some u) (hasg : ∀ comp c0 : ClassId, s.vm.findClass Cn = some comp → s.vm.findClass r.1 = some c0 → s.vm.assignable c0 comp = true) {i : Int32} (hv : sR sh d kd a i v = some d1) (hdg : decode cc pc = .ok (.aastore, 1))
    (kk : ∀ (H1 : Heap) (locs1 : List Loc), HW A D cy sz sh d1 H1 → va_S A s.heap H1 locs1 → W p l e R s m args below meth c H1 locs1 cells slots Q (F0 m (pc + 1) ls rest)) : W p l e R s m args below meth c H locs cells slots Q (F0 m pc ls (va_rf v :: .int i :: .ref a :: rest)) := by
  cases v with
  | none => exact w_aastN C hw hS t ht ht3 hty hv hdg kk
  | some v => exact w_aast0 C hw hS t ht ht3 hty hc hci (kc_k hkv) hasg hv hdg kk
theorem w_cast (C : mx p s m args meth c y cc nL rt A D cy st) (hw : HW A D cy sz sh d H) {ci index : Nat} {r : vw_C} {nm : String} (hc : vwCl[ci]? = some r) (hci : ci < 19) {v : Option Nat} {u : Unit} (hv : cst sh (ci + 1) v = some u) (hlink : Cond.classLink y.cls index nm ∈ gtb) (hca : Cond.castable r.1 nm ∈ nws) (hdg : decode cc pc = .ok (.checkcast index, 3))
    (kk : W p l e R s m args below meth c H locs cells slots Q (F0 m (pc + 3) ls (va_rf v :: rest))) : W p l e R s m args below meth c H locs cells slots Q (F0 m pc ls (va_rf v :: rest)) := by
  cases v with
  | none => exact lv_castN C.1 C.2.1 hdg kk
  | some v => exact va_castY C.1 C.2.1 C.2.2.2.2.2.1 (C.2.2.2.2.1 _ hlink) (C.2.2.2.2.2.2.2.1.2.1 _ hca) (w_recv C hw hc hci (kc_k hv)) hdg kk
/-- System.arraycopy, on the rows as they are -/
theorem w_cp0 (C : mx p s m args meth c y cc nL rt A D cy st) {index a0 : Nat} {c0 c1 : ClassId} {n0 n1 : Nat} {F G : Nat → Value} {ty : FieldType} (K0 : ∃ k cm, s.vm.classes[c0]? = some k ∧ k.kind = .array cm ty) (K1 : ∃ k cm, s.vm.classes[c1]? = some k ∧ k.kind = .array cm ty) (hc0 : H[a0]? = some (arrV c0 n0 F)) (hc1 : H[a]? = some (arrV c1 n1 G))
    {sp dp n : Int32} (h1 : ¬ sp < 0) (h2 : ¬ dp < 0) (h3 : ¬ n < 0) (h4 : sp.toNatClampNeg + n.toNatClampNeg ≤ n0) (h5 : dp.toNatClampNeg + n.toNatClampNeg ≤ n1) (hfit : ∀ i, i < n.toNatClampNeg → fits ty (F (sp.toNatClampNeg + i)) = true)
    (htk : ∀ T : State, T.heap = H → ∀ vm', s.vm.Alike vm' → ∀ k cm, s.vm.classes[c1]? = some k → k.kind = .array cm ty → ∀ i, i < n.toNatClampNeg → (T.setVm vm').takes cm (F (sp.toNatClampNeg + i)))
    (hlink : Cond.methodLink y.cls index arraycopyName ∈ gtb) (hnat : Cond.native arraycopyName ∈ gtb) (hstat : Cond.static arraycopyName ∈ gtb) (hini : Cond.initialized "java/lang/System" ∈ gtb) (hls : ls.size = nL) (hframes : 1 ≤ R.frames) (hlocals : (rest.map fun v => v.category).sum + (nativeFrameWords "java/lang/System" "arraycopy" 5 + 11) ≤ R.locals) (hdg : decode cc pc = .ok (.invokestatic index, 3))
    (kk : ∀ (H1 : Heap) (locs1 : List Loc), H1[a]? = some (arrV c1 n1 (va_cpy F G sp.toNatClampNeg dp.toNatClampNeg n.toNatClampNeg)) → H1.size = H.size → (∀ q : Nat, q ≠ a → H1[q]? = H[q]?) → (∀ q ∈ locs1, q ∈ locs ∨ q.base = a) → W p l e R s m args below meth c H1 locs1 cells slots Q (F0 m (pc + 3) ls rest)) : W p l e R s m args below meth c H locs cells slots Q (F0 m pc ls (.int n :: .int dp :: .ref a :: .int sp :: .ref a0 :: rest)) := by
  obtain ⟨hx, hb, -, hml, hts, ho, -, hK, -⟩ := C
  have nn : ∀ z : Int32, ¬ z < 0 → z.toInt = (z.toNatClampNeg : Int) := by
    intro z hz
    have hz0 : (0 : Int) ≤ z.toInt := by
      have := Int32.not_lt.mp hz
      simpa using Int32.le_iff_toInt_le.mp this
    show z.toInt = ((z.toInt.toNat : Nat) : Int)
    omega
  obtain ⟨k0, cm0, hk0, hkk0⟩ := K0
  obtain ⟨k1, cm1, hk1, hkk1⟩ := K1
  intro T hT X
  have ge : ∀ i, i < n.toNatClampNeg → (arrV c0 n0 F).slots.getD (sp.toNatClampNeg + i) .null = F (sp.toNatClampNeg + i) := by
    intro i hi
    rw [Array.getD_eq_getD_getElem?, arrV_read _ _ (by omega)]
    rfl
  obtain ⟨vm', X', step⟩ := X.arraycopy hx ho (hts _ hlink) (hts _ hnat) (hts _ hstat) (hts _ hini) (src := a0) (dst := a) (cs := arrV c0 n0 F) (cd := arrV c1 n1 G) (srcPos := sp) (destPos := dp) (n := n) (by rw [hT]; exact hc0) (by rw [hT]; exact hc1)
    (fun _ h => by cases h) (fun _ h => by cases h) (fun h => by cases h) (fun h => by cases h) hk0 hk1 hkk0 hkk1 (by simp) h1 h2 h3
    (by rw [nn sp h1, nn n h3, arrV_size]; omega)
    (by rw [nn dp h2, nn n h3, arrV_size]; omega)
    (fun vm₁ hal i hi => by rw [ge i hi]; exact ⟨hfit i hi, htk T hT vm₁ hal k1 cm1 hk1 hkk1 i hi⟩)
    (g := F0 m pc ls (.int n :: .int dp :: .ref a :: .int sp :: .ref a0 :: rest)) rfl (hls.trans hml.symm) (rest := rest) rfl (by rw [hb]; exact hdg) hframes (by show 2 * 0 + _ + _ ≤ _; omega)
  have e1 : copied (arrV c0 n0 F) (arrV c1 n1 G) sp dp n = arrV c1 n1 (va_cpy F G sp.toNatClampNeg dp.toNatClampNeg n.toNatClampNeg) := va_copied (fun z => z) c0 c1 F G h4
  rw [e1] at X' step
  have hl : a < H.size := (Array.getElem?_eq_some_iff.mp hc1).1
  have hheap : ((T.setVm vm').setCell a (arrV c1 n1 (va_cpy F G sp.toNatClampNeg dp.toNatClampNeg n.toNatClampNeg))).heap = H.setIfInBounds a (arrV c1 n1 (va_cpy F G sp.toNatClampNeg dp.toNatClampNeg n.toNatClampNeg)) := by rw [← hT]; rfl
  obtain ⟨t, a1, b1⟩ := kk _ _ (by simp [Array.getElem?_setIfInBounds, hl]) (by simp) (fun q hq => by simp [Array.getElem?_setIfInBounds, Ne.symm hq]) (fun q hq => by
      rcases List.mem_append.mp hq with h | h
      · exact Or.inl h
      · obtain ⟨z, -, hz⟩ := List.mem_map.mp h
        exact Or.inr (by rw [← hz])) _ hheap X'
  exact ⟨t, step t a1, b1⟩
theorem va_cpy_mk {α : Type} (mk : α → Value) (f g : Nat → α) (sp dp n : Nat) : va_cpy (fun j => mk (f j)) (fun j => mk (g j)) sp dp n = fun j => mk (va_cpy f g sp dp n j) := by
  funext j; simp only [va_cpy]; split <;> rfl
theorem w_S2 {H1 : Heap} {locs1 : List Loc} (hS : va_S A s.heap H locs) (z : H1.size = H.size) (oq : ∀ q : Nat, q ≠ a → H1[q]? = H[q]?) (hl : ∀ q ∈ locs1, q ∈ locs ∨ q.base = a) (ha : A a) : va_S A s.heap H1 locs1 :=
  ⟨by rw [z]; exact hS.1, fun q h1 h2 => by rw [oq q (fun e => h2 (e ▸ ha))]; exact hS.2.1 q h1 h2, fun q hq => (hl q hq).elim (hS.2.2 q) (fun e => e ▸ ha)⟩
theorem w_cpI (C : mx p s m args meth c y cc nL rt A D cy st) (hw : HW A D cy sz sh d H) (hS : va_S A s.heap H locs) {index a0 : Nat} {sp dp n : Int32} (hv : cpI sh d a0 sp a dp n = some d1)
    (hlink : Cond.methodLink y.cls index arraycopyName ∈ gtb) (hnat : Cond.native arraycopyName ∈ gtb) (hstat : Cond.static arraycopyName ∈ gtb) (hini : Cond.initialized "java/lang/System" ∈ gtb) (hls : ls.size = nL) (hframes : 1 ≤ R.frames) (hlocals : (rest.map fun v => v.category).sum + (nativeFrameWords "java/lang/System" "arraycopy" 5 + 11) ≤ R.locals) (hdg : decode cc pc = .ok (.invokestatic index, 3))
    (kk : ∀ (H1 : Heap) (locs1 : List Loc), HW A D cy sz sh d1 H1 → va_S A s.heap H1 locs1 → W p l e R s m args below meth c H1 locs1 cells slots Q (F0 m (pc + 3) ls rest)) : W p l e R s m args below meth c H locs cells slots Q (F0 m pc ls (.int n :: .int dp :: .ref a :: .int sp :: .ref a0 :: rest)) := by
  unfold cpI at hv
  split at hv
  · rename_i hk
    obtain ⟨k0, k1, h1, h2, h3, h4, h5⟩ := cpk_s hk
    cases hv
    have hK := C.2.2.2.2.2.2.2.1.1
    obtain ⟨-, kk0, g1, cm0, g2⟩ := (hK.2 0 _ rfl).1 (sh.2 a0) (fun j => .int (dai d a0 j))
    have q0 := (hw.2 a0 (by omega)).2
    have q1 := hw.2 a (by omega)
    rw [wE_i k0] at q0
    rw [wE_i k1] at q1
    refine w_cp0 C (F := fun j => .int (dai d a0 j)) (G := fun j => .int (dai d a j)) (ty := .int) ⟨kk0, cm0, g1, g2⟩ ⟨kk0, cm0, g1, g2⟩ q0 q1.2 h1 h2 h3 h4 h5 (fun _ _ => rfl) (fun T hT vm' hal k cm _ _ i hi => trivial) hlink hnat hstat hini hls hframes hlocals hdg fun H1 locs1 e z oq hl => ?_
    refine kk H1 locs1 (hw.set z oq ?_ (fun b hb => ?_)) (w_S2 hS z oq hl q1.1)
    · rw [wE_i k1]
      show H1[a]? = some (vp_cell _ _)
      rw [e, vp_cell_i, va_cpy_mk (fun z => .int z)]
      congr 2
      funext j
      simp [dai, uCI]
    · unfold wE
      have e1 : ∀ f, dai (uCI d a f) b = dai d b := by intro f; simp [dai, uCI, hb]
      rw [e1]; rfl
  · cases hv
theorem w_cpL (C : mx p s m args meth c y cc nL rt A D cy st) (hw : HW A D cy sz sh d H) (hS : va_S A s.heap H locs) {index a0 : Nat} {sp dp n : Int32} (hv : cpL sh d a0 sp a dp n = some d1)
    (hlink : Cond.methodLink y.cls index arraycopyName ∈ gtb) (hnat : Cond.native arraycopyName ∈ gtb) (hstat : Cond.static arraycopyName ∈ gtb) (hini : Cond.initialized "java/lang/System" ∈ gtb) (hls : ls.size = nL) (hframes : 1 ≤ R.frames) (hlocals : (rest.map fun v => v.category).sum + (nativeFrameWords "java/lang/System" "arraycopy" 5 + 11) ≤ R.locals) (hdg : decode cc pc = .ok (.invokestatic index, 3))
    (kk : ∀ (H1 : Heap) (locs1 : List Loc), HW A D cy sz sh d1 H1 → va_S A s.heap H1 locs1 → W p l e R s m args below meth c H1 locs1 cells slots Q (F0 m (pc + 3) ls rest)) : W p l e R s m args below meth c H locs cells slots Q (F0 m pc ls (.int n :: .int dp :: .ref a :: .int sp :: .ref a0 :: rest)) := by
  unfold cpL at hv
  split at hv
  · rename_i hk
    obtain ⟨k0, k1, h1, h2, h3, h4, h5⟩ := cpk_s hk
    cases hv
    have hK := C.2.2.2.2.2.2.2.1.1
    obtain ⟨-, kk0, g1, cm0, g2⟩ := (hK.2 1 _ rfl).1 (sh.2 a0) (fun j => .long (dal d a0 j))
    have q0 := (hw.2 a0 (by omega)).2
    have q1 := hw.2 a (by omega)
    rw [wE_j k0] at q0
    rw [wE_j k1] at q1
    refine w_cp0 C (F := fun j => .long (dal d a0 j)) (G := fun j => .long (dal d a j)) (ty := .long) ⟨kk0, cm0, g1, g2⟩ ⟨kk0, cm0, g1, g2⟩ q0 q1.2 h1 h2 h3 h4 h5 (fun _ _ => rfl) (fun T hT vm' hal k cm _ _ i hi => trivial) hlink hnat hstat hini hls hframes hlocals hdg fun H1 locs1 e z oq hl => ?_
    refine kk H1 locs1 (hw.set z oq ?_ (fun b hb => ?_)) (w_S2 hS z oq hl q1.1)
    · rw [wE_j k1]
      show H1[a]? = some (vp_cell _ _)
      rw [e, vp_cell_l, va_cpy_mk (fun z => .long z)]
      congr 2
      funext j
      simp [dal, uCL]
    · unfold wE
      have e1 : ∀ f, dal (uCL d a f) b = dal d b := by intro f; simp [dal, uCL, hb]
      rw [e1]; rfl
  · cases hv
theorem w_cpR (C : mx p s m args meth c y cc nL rt A D cy st) (hw : HW A D cy sz sh d H) (hS : va_S A s.heap H locs) {index a0 : Nat} {sp dp n : Int32} (hv : cpR sh d a0 sp a dp n = some d1)
    (hlink : Cond.methodLink y.cls index arraycopyName ∈ gtb) (hnat : Cond.native arraycopyName ∈ gtb) (hstat : Cond.static arraycopyName ∈ gtb) (hini : Cond.initialized "java/lang/System" ∈ gtb) (hls : ls.size = nL) (hframes : 1 ≤ R.frames) (hlocals : (rest.map fun v => v.category).sum + (nativeFrameWords "java/lang/System" "arraycopy" 5 + 11) ≤ R.locals) (hdg : decode cc pc = .ok (.invokestatic index, 3))
    (kk : ∀ (H1 : Heap) (locs1 : List Loc), HW A D cy sz sh d1 H1 → va_S A s.heap H1 locs1 → W p l e R s m args below meth c H1 locs1 cells slots Q (F0 m (pc + 3) ls rest)) : W p l e R s m args below meth c H locs cells slots Q (F0 m pc ls (.int n :: .int dp :: .ref a :: .int sp :: .ref a0 :: rest)) := by
  unfold cpR at hv
  split at hv
  · rename_i hk
    obtain ⟨hk, hE⟩ := hk
    obtain ⟨k0, k1, h1, h2, h3, h4, h5⟩ := cpk_s hk
    cases hv
    have hK := C.2.2.2.2.2.2.2.1.1
    have hca : va_Nw (.castable "ManyHands$Entry" "java/lang/Object") s := C.2.2.2.2.2.2.2.1.2.1 _ (by decide +kernel)
    obtain ⟨-, kk0, g1, cm0, g2⟩ := (hK.2 6 _ rfl).1 (sh.2 a0) (fun j => va_rf (dar d a0 j))
    obtain ⟨kA, comp, r1, r2, r3, -⟩ := (hK.2 6 _ rfl).2
    have q0 := (hw.2 a0 (by omega)).2
    have q1 := hw.2 a (by omega)
    rw [wE_r 6 k0 (by decide)] at q0
    rw [wE_r 6 k1 (by decide)] at q1
    refine w_cp0 C (F := fun j => va_rf (dar d a0 j)) (G := fun j => va_rf (dar d a j)) (ty := .object "java/lang/Object") ⟨kk0, cm0, g1, g2⟩ ⟨kk0, cm0, g1, g2⟩ q0 q1.2 h1 h2 h3 h4 h5 (fun i hi => by cases dar d a0 (sp.toNatClampNeg + i) <;> rfl) (fun T hT vm' hal k cm hkc hkk i hi => ?_) hlink hnat hstat hini hls hframes hlocals hdg fun H1 locs1 e z oq hl => ?_
    · have hE1 := List.all_eq_true.mp hE i (List.mem_range.mpr hi)
      cases hy : dar d a0 (sp.toNatClampNeg + i) with
      | none => exact trivial
      | some y =>
        rw [hy] at hE1
        have hky : sh.1 y = 1 + 1 := of_decide_eq_true hE1
        obtain ⟨cellV, v1, v2, v3⟩ := w_recv C hw (r := (RX0, TX0, 10)) rfl (by decide) hky
        cases hkc.symm.trans r1
        cases hkk.symm.trans r2
        obtain ⟨kC, hkC, -⟩ := Vm.findClass_spec v3
        obtain ⟨kE, hkE, -⟩ := Vm.findClass_spec r3
        obtain ⟨kC', hkC', -⟩ := hal.2.2 _ _ hkC
        obtain ⟨kE', hkE', -⟩ := hal.2.2 _ _ hkE
        refine ⟨cellV, (show T.heap[y]? = some cellV by rw [hT]; exact v1), (fun q h => by rw [h] at v2; cases v2), ⟨kC', hkC'⟩, ⟨kE', hkE'⟩, ?_⟩
        show vm'.assignable _ _ = true
        rw [hal.assignable]
        exact vb_asgC hca _ _ r3 v3
    refine kk H1 locs1 (hw.set z oq ?_ (fun b hb => ?_)) (w_S2 hS z oq hl q1.1)
    · rw [wE_r 6 k1 (by decide)]
      show H1[a]? = some (vp_cell _ _)
      rw [e, vp_cell_q, va_cpy_mk (fun z => va_rf z)]
      congr 2
      funext j
      simp [dar, uCR]
    · unfold wE
      have e1 : ∀ f, dar (uCR d a f) b = dar d b := by intro f; simp [dar, uCR, hb]
      rw [e1]; rfl
  · cases hv
theorem w_abv (C : mx p s m args meth c y cc nL rt A D cy st) (hS : va_S A s.heap H locs) {i v : Int32} (hv : abv i = some v) (hdg : decode cc pc = .ok (.iaload, 1))
    (kk : W p l e R s m args below meth c H locs cells slots Q (F0 m (pc + 1) ls (.int v :: rest))) : W p l e R s m args below meth c H locs cells slots Q (F0 m pc ls (.int i :: .ref (st 0) :: rest)) := by
  obtain ⟨-, -, -, -, -, -, z2, -, -⟩ := C.2.2.2.2.2.2.2.1
  obtain ⟨cell, h1, h2, h3, h4, h5, h6, h7⟩ := z2
  unfold abv at hv
  split at hv
  · cases hv
  · rename_i g1
    split at hv
    · cases hv
    · rename_i g2
      cases hv
      exact W.iald (v := abV i.toNatClampNeg) C.1 C.2.1 (by rw [hS.2.1 _ (Array.getElem?_eq_some_iff.mp h1).1 h7]; exact h1) h2 h3 (fun q => q.elim g1 (fun q => by omega)) (h6 _ (by omega)) rfl rfl hdg kk
theorem w_lnE (C : mx p s m args meth c y cc nL rt A D cy st) (hw : HW A D cy sz sh d H) (hS : va_S A s.heap H locs) {v : Int32} (hv : lnE sh (st 1) a = some v) (hdg : decode cc pc = .ok (.arraylength, 1))
    (kk : W p l e R s m args below meth c H locs cells slots Q (F0 m (pc + 1) ls (.int v :: rest))) : W p l e R s m args below meth c H locs cells slots Q (F0 m pc ls (.ref a :: rest)) := by
  unfold lnE at hv
  split at hv
  · rename_i ha
    subst ha
    cases hv
    obtain ⟨-, -, -, -, -, -, -, -, z4⟩ := C.2.2.2.2.2.2.2.1
    obtain ⟨cell, h1, h2, h3, h4, h5, h6, h7⟩ := z4
    exact W.alen (n := 0) C.1 C.2.1 (by rw [hS.2.1 _ (Array.getElem?_eq_some_iff.mp h1).1 h7]; exact h1) h2 h5 rfl rfl hdg kk
  · exact w_alen C hw 6 rfl rfl hv hdg kk
/-! calls of constructors -/
variable {y1 : MethodName} {cc1 : ByteArray} {nL1 : Nat} {rt1 : Option FieldType} {fr lo mc ms b index ci : Nat} {As st0 : List Value} {rv : Option Value}
def CK (y1 : MethodName) (cc1 : ByteArray) (nL1 : Nat) (n : Nat) : Prop := y1.name = "<init>" ∧ Cond.instanceMethod y1 ∈ gtb ∧ Cond.initialized y1.cls ∈ gtb ∧ Cond.code y1 cc1 nL1 none ∈ gtb ∧ y1.cls ≠ "java/lang/invoke/MethodHandle" ∧ y1.cls ≠ "java/lang/invoke/VarHandle" ∧ (parseMethodDescriptor y1.desc).map (fun d => d.parameters.length) = some n
theorem cl_I (C : mx p s m args meth c y cc nL rt A D cy st) (hw : HW A D cy sz sh d H) (hS : va_S A s.heap H locs) (hc : Ct l y1 cc1 nL1 none fr lo mc ms A D cy st (.ref b :: As) sz sh d rv sz1 sh1 d1) (V : CK y1 cc1 nL1 As.length) (hlink : Cond.methodLink y.cls index y1 ∈ gtb) (hR : fr + 1 ≤ R.frames ∧ 8 + (nL1 + 11) + lo ≤ R.locals) (hls : ls.size = nL) (hst : st0 = As.reverse ++ .ref b :: rest) (hW : (rest.map fun v => v.category).sum ≤ 8) (hdg : decode cc pc = .ok (.invokespecial index, 3)) (hf : cells + mc ≤ R.cells ∧ slots + ms ≤ R.slots)
    (kk : ∀ (H1 : Heap) (locs1 : List Loc), HW A D cy sz1 sh1 d1 H1 → va_S A s.heap H1 locs1 → W p l e R s m args below meth c H1 locs1 (cells + mc) (slots + ms) Q (F0 m (pc + 3) ls (rv.toList ++ rest))) : W p l e R s m args below meth c H locs cells slots Q (F0 m pc ls st0) := by
  obtain ⟨v1, v2, v3, v4, v7, v8, v9⟩ := V
  have hp := pre_go C hw hS (.ref b :: As)
  obtain ⟨hx, hb, -, hml, hts, ho, -, hK, -⟩ := C
  exact run_go (va_runI (As := As) (rest := rest) (n := As.length) (Ts := gtb) (own := y.cls) ⟨hx, hb, hml, ho, hts⟩ hc ⟨callB_of _ hts (gd_code v4) rfl rfl rfl (hts _ v3) (hts _ hlink) ⟨v7, v8, v9⟩ hR, v1, hts _ v2⟩ hp rfl rfl hls hst (by show 2 * 0 + _ ≤ 8; omega) hdg hf) hS kk
theorem cl_IN {host : String} (C : mx p s m args meth c y cc nL rt A D cy st) (hw : HW A D cy sz sh d H) (hS : va_S A s.heap H locs) (hc : Ct l y1 cc1 nL1 none fr lo mc ms A D cy st (.ref b :: As) sz sh d rv sz1 sh1 d1) (V : CK y1 cc1 nL1 As.length) (hlink : Cond.methodLinkNest y.cls index y1 host ∈ nws) (hR : fr + 1 ≤ R.frames ∧ 8 + (nL1 + 11) + lo ≤ R.locals) (hls : ls.size = nL) (hst : st0 = As.reverse ++ .ref b :: rest) (hW : (rest.map fun v => v.category).sum ≤ 8) (hdg : decode cc pc = .ok (.invokespecial index, 3)) (hf : cells + mc ≤ R.cells ∧ slots + ms ≤ R.slots)
    (kk : ∀ (H1 : Heap) (locs1 : List Loc), HW A D cy sz1 sh1 d1 H1 → va_S A s.heap H1 locs1 → W p l e R s m args below meth c H1 locs1 (cells + mc) (slots + ms) Q (F0 m (pc + 3) ls (rv.toList ++ rest))) : W p l e R s m args below meth c H locs cells slots Q (F0 m pc ls st0) := by
  obtain ⟨v1, v2, v3, v4, v7, v8, v9⟩ := V
  have hp := pre_go C hw hS (.ref b :: As)
  obtain ⟨hx, hb, -, hml, hts, ho, -, hK, -⟩ := C
  exact run_go (va_runIN (As := As) (rest := rest) (n := As.length) (Ts := gtb) (own := y.cls) (host := host) ⟨hx, hb, hml, ho, hts⟩ hc ⟨va_cnB _ hts (gd_code v4) rfl rfl rfl (hK.2.1 _ hlink) (hts _ v3) ⟨v7, v8, v9⟩ hR, v1, hts _ v2⟩ hp rfl rfl hls hst (by show 2 * 0 + _ ≤ 8; omega) hdg hf) hS kk
end
end
section
abbrev GA (p : Program) (l : Launch) (e : Env) (s : State) (m : MethodId) (args : Array Value) (below : List Frame) (meth : Method) (c : Code) (fr lo mc ms : Nat) (A : Nat → Prop) (D : va_G) (cy : Nat → ClassId) (rv : Option Value) (sz : Nat) (sh : Sh) (d : Dt) (H : Heap) (locs : List Loc) (cu su : Nat) (pc : Nat) (ls : Array Slot) (st : List Value) : Prop :=
  W p l e { frames := fr, cells := mc, slots := ms, locals := lo } s m args below meth c H locs cu su (MQ below (Qs A D cy rv sz sh d) args s mc ms A) (F0 m pc ls st)
section
variable {p : Program} {l : Launch} {e : Env} {R : Room} {s : State} {m : MethodId} {args : Array Value} {below : List Frame} {meth : Method} {c : Code} {H : Heap} {locs : List Loc} {cells slots : Nat} {Q : State → Prop}
variable {y : MethodName} {cc : ByteArray} {nL : Nat} {rt : Option FieldType} {A : Nat → Prop} {D : va_G} {cy : Nat → ClassId} {st : Nat → Nat} {sz : Nat} {sh : Sh} {d d1 : Dt} {pc a : Nat} {ls : Array Slot} {rest : List Value}
variable {y1 : MethodName} {cc1 : ByteArray} {nL1 : Nat} {rt1 : Option FieldType} {fr lo mc ms b index ci : Nat} {As st0 : List Value} {rv : Option Value} {sz1 : Nat} {sh1 : Sh}
theorem rt_aa {t : FieldType} (C : mx p s m args meth c y cc nL (some (.array t)) A D cy st) (hw : HW A D cy sz sh d H) (hS : va_S A s.heap H locs) {v : Option Nat} (hdg : decode cc pc = .ok (.areturn, 1)) : W p l e R s m args below meth c H locs cells slots (MQ below (Qs A D cy (some (va_rf v)) sz sh d) args s cells slots A) (F0 m pc ls [va_rf v]) := by
  obtain ⟨hx, hb, hr, -, -, -, hlk, -⟩ := C
  exact W.aret hx hb hr (Or.inr ⟨t, rfl⟩) (by cases v; exact Or.inl rfl; exact Or.inr ⟨_, rfl⟩) (fun t ht _ => ⟨⟨rfl, by rw [ht]; exact hw⟩, hS.F ht⟩) hS.2.2 hdg hlk
theorem w_cls (C : mx p s m args meth c y cc nL rt A D cy st) (hw : HW A D cy sz sh d H) (hk : sh.1 a = 26) : ∃ cell : Cell, H[a]? = some cell ∧ cell.vm.isStatics = false ∧ s.vm.findClass "[Ljava/lang/Object;" = some cell.cls := by
  have q := (hw.2 a (by omega)).2
  rw [wE_r 6 hk (by decide)] at q
  exact ⟨_, q, rfl, va_nmO (C.2.2.2.2.2.2.2.1.1.2 6 _ rfl).2 (by decide)⟩
theorem cl_I0 (C : mx p s m args meth c y cc nL rt A D cy st) (hw : HW A D cy sz sh d H) (hS : va_S A s.heap H locs) (hc : Ct l y1 cc1 nL1 none fr lo 0 0 A D cy st (.ref b :: As) sz sh d rv sz1 sh1 d1) (V : CK y1 cc1 nL1 As.length) (hlink : Cond.methodLink y.cls index y1 ∈ gtb) (hR : fr + 1 ≤ R.frames ∧ 8 + (nL1 + 11) + lo ≤ R.locals) (hls : ls.size = nL) (hst : st0 = As.reverse ++ .ref b :: rest) (hW : (rest.map fun v => v.category).sum ≤ 8) (hdg : decode cc pc = .ok (.invokespecial index, 3)) (hf : cells ≤ R.cells ∧ slots ≤ R.slots)
    (kk : ∀ (H1 : Heap) (locs1 : List Loc), HW A D cy sz1 sh1 d1 H1 → va_S A s.heap H1 locs1 → W p l e R s m args below meth c H1 locs1 cells slots Q (F0 m (pc + 3) ls (rv.toList ++ rest))) : W p l e R s m args below meth c H locs cells slots Q (F0 m pc ls st0) := cl_I C hw hS hc V hlink hR hls hst hW hdg hf kk
theorem pt_32L (C : mx p s m args meth c y cc nL rt A D cy st) (hw : HW A D cy sz sh d H) (hS : va_S A s.heap H locs) {v : Int32} (hv : pI sh d 1 32 a v = some d1) {index : Nat} (hlink : Cond.fieldLink y.cls index "java/util/AbstractList" "modCount" "I" ∈ gtb) (hdg : decode cc pc = .ok (.putfield index, 3)) (kk : ∀ (H1 : Heap) (locs1 : List Loc), HW A D cy sz sh d1 H1 → va_S A s.heap H1 locs1 → W p l e R s m args below meth c H1 locs1 cells slots Q (F0 m (pc + 3) ls rest)) : W p l e R s m args below meth c H locs cells slots Q (F0 m pc ls (.int v :: .ref a :: rest)) := by
  obtain ⟨hk, rfl⟩ := pI_s hv
  exact w_put C hw hS inJx4a65c tyJx4a65c tyJx4a65c_ok nmJx4a65c rfl (by decide) hk 0 (by decide) hlink (fun _ h => h) (Or.inl rfl) rfl rfl (Nat.le_of_ble_eq_true rfl) (by simp [wF, uI, u3, dfi, dfl, dfr]) (fun cj b hb => wF_I d _ _ _ cj b hb) rfl hdg kk
end
theorem dfJx4a65c : ∀ (d : Dt) (a j : Nat), j < 3 → defaultValue (tyJx4a65c j) = vp_V (wF (zO d a) 0 a) j := by
  intro d a j hj
  rw [show wF (zO d a) 0 a = [.int 0, .null, .int 0] from by simp [wF, zO, dfi, dfl, dfr, va_rf]]
  match j, hj with
  | 0, _ => rfl
  | 1, _ => rfl
  | 2, _ => rfl
  | n + 3, h => exact absurd h (by omega)
theorem dfX0 : ∀ (d : Dt) (a j : Nat), j < 10 → defaultValue (tyX0 j) = vp_V (wF (zO d a) 1 a) j := by
  intro d a j hj
  rw [show wF (zO d a) 1 a = [.int 0, .int 0, .int 0, .int 0, .int 0, .long 0, .int 0, .int 0, .null, .null] from by simp [wF, zO, dfi, dfl, dfr, va_rf]]
  match j, hj with
  | 0, _ => rfl
  | 1, _ => rfl
  | 2, _ => rfl
  | 3, _ => rfl
  | 4, _ => rfl
  | 5, _ => rfl
  | 6, _ => rfl
  | 7, _ => rfl
  | 8, _ => rfl
  | 9, _ => rfl
  | n + 10, h => exact absurd h (by omega)
theorem dfX1 : ∀ (d : Dt) (a j : Nat), j < 7 → defaultValue (tyX1 j) = vp_V (wF (zO d a) 2 a) j := by
  intro d a j hj
  rw [show wF (zO d a) 2 a = [.int 0, .null, .null, .null, .null, .null, .int 0] from by simp [wF, zO, dfi, dfl, dfr, va_rf]]
  match j, hj with
  | 0, _ => rfl
  | 1, _ => rfl
  | 2, _ => rfl
  | 3, _ => rfl
  | 4, _ => rfl
  | 5, _ => rfl
  | 6, _ => rfl
  | n + 7, h => exact absurd h (by omega)
theorem dfX2 : ∀ (d : Dt) (a j : Nat), j < 3 → defaultValue (tyX2 j) = vp_V (wF (zO d a) 3 a) j := by
  intro d a j hj
  rw [show wF (zO d a) 3 a = [.null, .null, .int 0] from by simp [wF, zO, dfi, dfl, dfr, va_rf]]
  match j, hj with
  | 0, _ => rfl
  | 1, _ => rfl
  | 2, _ => rfl
  | n + 3, h => exact absurd h (by omega)
theorem dfX3 : ∀ (d : Dt) (a j : Nat), j < 4 → defaultValue (tyX3 j) = vp_V (wF (zO d a) 4 a) j := by
  intro d a j hj
  rw [show wF (zO d a) 4 a = [.int 0, .int 0, .null, .null] from by simp [wF, zO, dfi, dfl, dfr, va_rf]]
  match j, hj with
  | 0, _ => rfl
  | 1, _ => rfl
  | 2, _ => rfl
  | 3, _ => rfl
  | n + 4, h => exact absurd h (by omega)
theorem dfX4 : ∀ (d : Dt) (a j : Nat), j < 1 → defaultValue (tyX4 j) = vp_V (wF (zO d a) 5 a) j := by
  intro d a j hj
  rw [show wF (zO d a) 5 a = [.null] from by simp [wF, zO, dfi, dfl, dfr, va_rf]]
  match j, hj with
  | 0, _ => rfl
  | n + 1, h => exact absurd h (by omega)
theorem dfX5 : ∀ (d : Dt) (a j : Nat), j < 2 → defaultValue (tyX5 j) = vp_V (wF (zO d a) 6 a) j := by
  intro d a j hj
  rw [show wF (zO d a) 6 a = [.null, .int 0] from by simp [wF, zO, dfi, dfl, dfr, va_rf]]
  match j, hj with
  | 0, _ => rfl
  | 1, _ => rfl
  | n + 2, h => exact absurd h (by omega)
theorem dfX6 : ∀ (d : Dt) (a j : Nat), j < 10 → defaultValue (tyX6 j) = vp_V (wF (zO d a) 7 a) j := by
  intro d a j hj
  rw [show wF (zO d a) 7 a = [.null, .null, .null, .null, .null, .null, .int 0, .int 0, .int 0, .long 0] from by simp [wF, zO, dfi, dfl, dfr, va_rf]]
  match j, hj with
  | 0, _ => rfl
  | 1, _ => rfl
  | 2, _ => rfl
  | 3, _ => rfl
  | 4, _ => rfl
  | 5, _ => rfl
  | 6, _ => rfl
  | 7, _ => rfl
  | 8, _ => rfl
  | 9, _ => rfl
  | n + 10, h => exact absurd h (by omega)
theorem dfX7 : ∀ (d : Dt) (a j : Nat), j < 28 → defaultValue (tyX7 j) = vp_V (wF (zO d a) 8 a) j := by
  intro d a j hj
  rw [show wF (zO d a) 8 a = [.int 0, .null, .int 0, .null, .null, .null, .null, .int 0, .null, .int 0, .null, .null, .null, .null, .null, .null, .null, .null, .long 0, .null, .int 0, .null, .null, .null, .null, .null, .null, .null] from by simp [wF, zO, dfi, dfl, dfr, va_rf]]
  match j, hj with
  | 0, _ => rfl
  | 1, _ => rfl
  | 2, _ => rfl
  | 3, _ => rfl
  | 4, _ => rfl
  | 5, _ => rfl
  | 6, _ => rfl
  | 7, _ => rfl
  | 8, _ => rfl
  | 9, _ => rfl
  | 10, _ => rfl
  | 11, _ => rfl
  | 12, _ => rfl
  | 13, _ => rfl
  | 14, _ => rfl
  | 15, _ => rfl
  | 16, _ => rfl
  | 17, _ => rfl
  | 18, _ => rfl
  | 19, _ => rfl
  | 20, _ => rfl
  | 21, _ => rfl
  | 22, _ => rfl
  | 23, _ => rfl
  | 24, _ => rfl
  | 25, _ => rfl
  | 26, _ => rfl
  | 27, _ => rfl
  | n + 28, h => exact absurd h (by omega)
end
section
section
variable {p : Program} {l : Launch} {e : Env} {s : State} {m : MethodId} {args : Array Value} {below : List Frame} {meth : Method} {c : Code} {A : Nat → Prop} {D : va_G} {cy : Nat → ClassId} {st : Nat → Nat} {sz : Nat} {sh : Sh}
theorem dJxa1e45_init_da8c8_0 : decode cJxa1e45_init_da8c8 0 = .ok (.aload_n 0, 1) := by decide +kernel
theorem dJxa1e45_init_da8c8_1 : decode cJxa1e45_init_da8c8 1 = .ok (.invokespecial 1, 3) := by decide +kernel
theorem dJxa1e45_init_da8c8_4 : decode cJxa1e45_init_da8c8 4 = .ok (.return_, 1) := by decide +kernel
theorem ckJxa1e45_init_da8c8 : CK yJxa1e45_init_da8c8 cJxa1e45_init_da8c8 1 0 := ⟨rfl, kw_39, kw_2, kw_40, by decide +kernel, by decide +kernel, by decide +kernel⟩
def fJxa1e45_init_da8c8_b0 (sh : Sh) (d : Dt) (x0 : Nat) : Option (Unit) := some ()

def fJxa1e45_init_da8c8 (sh : Sh) (d : Dt) (x0 : Nat) : Option (Unit) := fJxa1e45_init_da8c8_b0 sh d x0

set_option maxRecDepth 100000 in
set_option maxHeartbeats 4000000 in
theorem wJxa1e45_init_da8c8_b0 (C : mx p s m args meth c yJxa1e45_init_da8c8 cJxa1e45_init_da8c8 1 none A D cy st) {d : Dt} : ∀ (x0 : Nat), fJxa1e45_init_da8c8_b0 sh d x0 = some () → ∀ {H : Heap} {locs : List Loc} {ls : Array Slot}, HW A D cy sz sh d H → va_S A s.heap H locs → lv_has ls 1 [(0, .ref x0)] → GL p l e s m args below meth c 1 20 A D cy none sz sh d H locs 0 ls [] := by
  have hx := C.1
  have hb := C.2.1
  intro x0 hf H locs ls hw hS hl
  unfold fJxa1e45_init_da8c8_b0 at hf
  refine lv_aload_n hx hb dJxa1e45_init_da8c8_0 rfl (lv_at hl 0 rfl) ?_
  refine W.objInit hx hb C.2.2.2.2.2.1 (C.2.2.2.2.1 _ kw_41) (C.2.2.2.2.1 _ kw_24) (C.2.2.2.2.1 _ kw_25) rfl (hl.1.trans C.2.2.2.1.symm) rfl dJxa1e45_init_da8c8_1 (Nat.le_of_ble_eq_true rfl) (Nat.le_of_ble_eq_true rfl) ?_
  refine W.eq (g2 := F0 m 4 ls []) rfl ?_
  cases hf
  exact rt_v C hw hS dJxa1e45_init_da8c8_4

set_option maxRecDepth 100000 in
set_option maxHeartbeats 4000000 in
theorem tJxa1e45_init_da8c8 (l : Launch) (A : Nat → Prop) (D : va_G) (cy : Nat → ClassId) (st : Nat → Nat) (sz : Nat) (sh : Sh) (d : Dt) (x0 : Nat) (hf : fJxa1e45_init_da8c8 sh d x0 = some ()) : Ct l yJxa1e45_init_da8c8 cJxa1e45_init_da8c8 1 none 1 20 0 0 A D cy st [.ref x0] sz sh d none sz sh d := ct_of (by decide) (Nat.le_of_ble_eq_true rfl) (fun p e s m args below meth c C hw hS ls hl => wJxa1e45_init_da8c8_b0 C x0 hf hw hS hl)
theorem dJxc12de_init_da8c8_0 : decode cJxc12de_init_da8c8 0 = .ok (.aload_n 0, 1) := by decide +kernel
theorem dJxc12de_init_da8c8_1 : decode cJxc12de_init_da8c8 1 = .ok (.invokespecial 1, 3) := by decide +kernel
theorem dJxc12de_init_da8c8_4 : decode cJxc12de_init_da8c8 4 = .ok (.aload_n 0, 1) := by decide +kernel
theorem dJxc12de_init_da8c8_5 : decode cJxc12de_init_da8c8 5 = .ok (.iconst 0, 1) := by decide +kernel
theorem dJxc12de_init_da8c8_6 : decode cJxc12de_init_da8c8 6 = .ok (.putfield 7, 3) := by decide +kernel
theorem dJxc12de_init_da8c8_9 : decode cJxc12de_init_da8c8 9 = .ok (.return_, 1) := by decide +kernel
theorem ckJxc12de_init_da8c8 : CK yJxc12de_init_da8c8 cJxc12de_init_da8c8 1 0 := ⟨rfl, kw_36, kw_3, kw_37, by decide +kernel, by decide +kernel, by decide +kernel⟩
def fJxc12de_init_da8c8_b0 (sh : Sh) (x0 : Nat) (d : Dt) : Option (Dt) := bd (fJxa1e45_init_da8c8 sh d x0) fun _ => bd (pI sh d 1 32 x0 (0 : Int32)) fun d3 => some (d3)

def fJxc12de_init_da8c8 (sh : Sh) (d : Dt) (x0 : Nat) : Option (Dt) := fJxc12de_init_da8c8_b0 sh x0 d

set_option maxRecDepth 100000 in
set_option maxHeartbeats 4000000 in
theorem wJxc12de_init_da8c8_b0 (C : mx p s m args meth c yJxc12de_init_da8c8 cJxc12de_init_da8c8 1 none A D cy st) {d9 : Dt} : ∀ (x0 : Nat) (d : Dt), fJxc12de_init_da8c8_b0 sh x0 d = some d9 → ∀ {H : Heap} {locs : List Loc} {ls : Array Slot}, HW A D cy sz sh d H → va_S A s.heap H locs → lv_has ls 1 [(0, .ref x0)] → GL p l e s m args below meth c 2 40 A D cy none sz sh d9 H locs 0 ls [] := by
  have hx := C.1
  have hb := C.2.1
  intro x0 d hf H locs ls hw hS hl
  unfold fJxc12de_init_da8c8_b0 at hf
  refine lv_aload_n hx hb dJxc12de_init_da8c8_0 rfl (lv_at hl 0 rfl) ?_
  obtain ⟨_, h1, hf⟩ := bd_s hf
  refine cl_I0 C hw hS (tJxa1e45_init_da8c8 l A D cy st sz sh d x0 h1) ckJxa1e45_init_da8c8 kw_38 ⟨(Nat.le_of_ble_eq_true rfl), (Nat.le_of_ble_eq_true rfl)⟩ hl.1 rfl (Nat.le_of_ble_eq_true rfl) dJxc12de_init_da8c8_1 ⟨Nat.zero_le _, Nat.zero_le _⟩ (fun H locs hw hS => ?_)
  refine lv_aload_n hx hb dJxc12de_init_da8c8_4 rfl (lv_at hl 0 rfl) ?_
  refine lv_iconst (v := 0) hx hb dJxc12de_init_da8c8_5 (by decide) ?_
  obtain ⟨d3, hd3, hf⟩ := bd_s hf
  refine pt_32L C hw hS hd3 kw_46 dJxc12de_init_da8c8_6 (fun H locs hw hS => ?_)
  cases hf
  exact rt_v C hw hS dJxc12de_init_da8c8_9

set_option maxRecDepth 100000 in
set_option maxHeartbeats 4000000 in
theorem tJxc12de_init_da8c8 (l : Launch) (A : Nat → Prop) (D : va_G) (cy : Nat → ClassId) (st : Nat → Nat) (sz : Nat) (sh : Sh) (d : Dt) (x0 : Nat) {d9 : Dt} (hf : fJxc12de_init_da8c8 sh d x0 = some d9) : Ct l yJxc12de_init_da8c8 cJxc12de_init_da8c8 1 none 2 40 0 0 A D cy st [.ref x0] sz sh d none sz sh d9 := ct_of (by decide) (Nat.le_of_ble_eq_true rfl) (fun p e s m args below meth c C hw hS ls hl => wJxc12de_init_da8c8_b0 C x0 d hf hw hS hl)
theorem dJx4a65c_init_da8c8_0 : decode cJx4a65c_init_da8c8 0 = .ok (.aload_n 0, 1) := by decide +kernel
theorem dJx4a65c_init_da8c8_1 : decode cJx4a65c_init_da8c8 1 = .ok (.invokespecial 1, 3) := by decide +kernel
theorem dJx4a65c_init_da8c8_4 : decode cJx4a65c_init_da8c8 4 = .ok (.aload_n 0, 1) := by decide +kernel
theorem dJx4a65c_init_da8c8_5 : decode cJx4a65c_init_da8c8 5 = .ok (.getstatic 39, 3) := by decide +kernel
theorem dJx4a65c_init_da8c8_8 : decode cJx4a65c_init_da8c8 8 = .ok (.putfield 9, 3) := by decide +kernel
theorem dJx4a65c_init_da8c8_11 : decode cJx4a65c_init_da8c8 11 = .ok (.return_, 1) := by decide +kernel
theorem ckJx4a65c_init_da8c8 : CK yJx4a65c_init_da8c8 cJx4a65c_init_da8c8 1 0 := ⟨rfl, kw_33, kw_4, kw_34, by decide +kernel, by decide +kernel, by decide +kernel⟩
def fJx4a65c_init_da8c8_b0 (em mi : Nat) (x0 : Nat) (sz : Nat) (ns : Nat) (sh : Sh) (d : Dt) : Option (Wl) := bd (fJxc12de_init_da8c8 sh d x0) fun d3 => bd (pR sh d3 1 33 x0 (some em)) fun d4 => some (sz, ns, sh, d4)

def fJx4a65c_init_da8c8 (em mi : Nat) (x0 : Nat) (sz ns : Nat) (sh : Sh) (d : Dt) : Option (Wl) := fJx4a65c_init_da8c8_b0 em mi x0 sz ns sh d

set_option maxRecDepth 100000 in
set_option maxHeartbeats 4000000 in
theorem mJx4a65c_init_da8c8_b0 (em mi : Nat) {sz9 ns9 : Nat} {sh9 : Sh} {d9 : Dt} : ∀ (x0 : Nat) (sz : Nat) (ns : Nat) (sh : Sh) (d : Dt), fJx4a65c_init_da8c8_b0 em mi x0 sz ns sh d = some (sz9, ns9, sh9, d9) → sz ≤ sz9 ∧ ns ≤ ns9 := by
  intro x0 sz ns sh d hf
  unfold fJx4a65c_init_da8c8_b0 at hf
  obtain ⟨d3, h1, hf⟩ := bd_s hf
  obtain ⟨d4, hd4, hf⟩ := bd_s hf
  cases hf
  exact ⟨Nat.le_refl _, Nat.le_refl _⟩

theorem gJx4a65c_init_da8c8 (em mi : Nat) (x0 : Nat) (sz ns : Nat) (sh : Sh) (d : Dt) {sz9 ns9 : Nat} {sh9 : Sh} {d9 : Dt} (hf : fJx4a65c_init_da8c8 em mi x0 sz ns sh d = some (sz9, ns9, sh9, d9)) : sz ≤ sz9 ∧ ns ≤ ns9 := mJx4a65c_init_da8c8_b0 em mi x0 sz ns sh d hf

set_option maxRecDepth 100000 in
set_option maxHeartbeats 4000000 in
theorem wJx4a65c_init_da8c8_b0 (C : mx p s m args meth c yJx4a65c_init_da8c8 cJx4a65c_init_da8c8 1 none A D cy st) {sz9 ns9 : Nat} {sh9 : Sh} {d9 : Dt} {mc ms : Nat} : ∀ (x0 : Nat) (sz : Nat) (ns : Nat) (sh : Sh) (d : Dt), fJx4a65c_init_da8c8_b0 (st 1) (st 2) x0 sz ns sh d = some (sz9, ns9, sh9, d9) → ∀ {cu su : Nat}, sz9 + cu = sz + mc → ns9 + su = ns + ms → ∀ {H : Heap} {locs : List Loc} {ls : Array Slot}, HW A D cy sz sh d H → va_S A s.heap H locs → lv_has ls 1 [(0, .ref x0)] → GA p l e s m args below meth c 3 60 mc ms A D cy none sz9 sh9 d9 H locs cu su 0 ls [] := by
  have hx := C.1
  have hb := C.2.1
  intro x0 sz ns sh d hf cu su hcm hsm H locs ls hw hS hl
  have hm0 := mJx4a65c_init_da8c8_b0 (st 1) (st 2) x0 sz ns sh d hf
  unfold fJx4a65c_init_da8c8_b0 at hf
  refine lv_aload_n hx hb dJx4a65c_init_da8c8_0 rfl (lv_at hl 0 rfl) ?_
  obtain ⟨d3, h1, hf⟩ := bd_s hf
  refine cl_I0 C hw hS (tJxc12de_init_da8c8 l A D cy st sz sh d x0 h1) ckJxc12de_init_da8c8 kw_35 ⟨(Nat.le_of_ble_eq_true rfl), (Nat.le_of_ble_eq_true rfl)⟩ hl.1 rfl (Nat.le_of_ble_eq_true rfl) dJx4a65c_init_da8c8_1 ⟨by show _ ≤ mc; omega, by show _ ≤ ms; omega⟩ (fun H locs hw hS => ?_)
  refine lv_aload_n hx hb dJx4a65c_init_da8c8_4 rfl (lv_at hl 0 rfl) ?_
  refine va_gets hx hb C.2.2.2.2.2.2.2.1.2.2.2.2.2.2.2.1 hS C.2.2.2.2.2.1 (C.2.2.2.2.1 _ kw_42) (fun _ h => h) dJx4a65c_init_da8c8_5 ?_
  obtain ⟨d4, hd4, hf⟩ := bd_s hf
  refine pt_33 C hw hS hd4 kw_44 dJx4a65c_init_da8c8_8 (fun H locs hw hS => ?_)
  cases hf
  obtain rfl : mc = cu := by omega
  obtain rfl : ms = su := by omega
  exact rt_v C hw hS dJx4a65c_init_da8c8_11

set_option maxRecDepth 100000 in
set_option maxHeartbeats 4000000 in
theorem tJx4a65c_init_da8c8 (l : Launch) (A : Nat → Prop) (D : va_G) (cy : Nat → ClassId) (st : Nat → Nat) (x0 : Nat) (sz ns : Nat) (sh : Sh) (d : Dt) {sz9 ns9 : Nat} {sh9 : Sh} {d9 : Dt} (hf : fJx4a65c_init_da8c8 (st 1) (st 2) x0 sz ns sh d = some (sz9, ns9, sh9, d9)) : Ct l yJx4a65c_init_da8c8 cJx4a65c_init_da8c8 1 none 3 60 (sz9 - sz) (ns9 - ns) A D cy st [.ref x0] sz sh d none sz9 sh9 d9 := by
  have hm := gJx4a65c_init_da8c8 (st 1) (st 2) x0 sz ns sh d hf
  exact ct_of (by decide) (Nat.le_of_ble_eq_true rfl) (fun p e s m args below meth c C hw hS ls hl => wJx4a65c_init_da8c8_b0 C x0 sz ns sh d hf (by omega) (by omega) hw hS hl)
theorem dJx4a65c_isEmpty_aae02_0 : decode cJx4a65c_isEmpty_aae02 0 = .ok (.aload_n 0, 1) := by decide +kernel
theorem dJx4a65c_isEmpty_aae02_1 : decode cJx4a65c_isEmpty_aae02 1 = .ok (.getfield 48, 3) := by decide +kernel
theorem dJx4a65c_isEmpty_aae02_4 : decode cJx4a65c_isEmpty_aae02 4 = .ok (.ifCond .ne 7, 3) := by decide +kernel
theorem dJx4a65c_isEmpty_aae02_7 : decode cJx4a65c_isEmpty_aae02 7 = .ok (.iconst 1, 1) := by decide +kernel
theorem dJx4a65c_isEmpty_aae02_8 : decode cJx4a65c_isEmpty_aae02 8 = .ok (.goto 4, 3) := by decide +kernel
theorem dJx4a65c_isEmpty_aae02_11 : decode cJx4a65c_isEmpty_aae02 11 = .ok (.iconst 0, 1) := by decide +kernel
theorem dJx4a65c_isEmpty_aae02_12 : decode cJx4a65c_isEmpty_aae02 12 = .ok (.ireturn, 1) := by decide +kernel
theorem cvJx4a65c_isEmpty_aae02 : CV yJx4a65c_isEmpty_aae02 cJx4a65c_isEmpty_aae02 1 (some .boolean) 0 0 := ⟨kw_108, kw_109, kw_4, kw_110, ⟨_, _, rfl⟩, by decide, by decide +kernel, by decide +kernel, by decide +kernel⟩
def fJx4a65c_isEmpty_aae02_b0 (sh : Sh) (d : Dt) (x0 : Nat) : Option (Bool) := bd (gI sh d 1 34 x0) fun v1 => if v1 = 0 then (some true) else (some false)

def fJx4a65c_isEmpty_aae02 (sh : Sh) (d : Dt) (x0 : Nat) : Option (Bool) := fJx4a65c_isEmpty_aae02_b0 sh d x0

set_option maxRecDepth 100000 in
set_option maxHeartbeats 4000000 in
theorem wJx4a65c_isEmpty_aae02_b0 (C : mx p s m args meth c yJx4a65c_isEmpty_aae02 cJx4a65c_isEmpty_aae02 1 (some .boolean) A D cy st) {r : Bool} {d : Dt} : ∀ (x0 : Nat), fJx4a65c_isEmpty_aae02_b0 sh d x0 = some r → ∀ {H : Heap} {locs : List Loc} {ls : Array Slot}, HW A D cy sz sh d H → va_S A s.heap H locs → lv_has ls 1 [(0, .ref x0)] → GL p l e s m args below meth c 0 0 A D cy (some (.int (bI r))) sz sh d H locs 0 ls [] := by
  have hx := C.1
  have hb := C.2.1
  intro x0 hf H locs ls hw hS hl
  unfold fJx4a65c_isEmpty_aae02_b0 at hf
  refine lv_aload_n hx hb dJx4a65c_isEmpty_aae02_0 rfl (lv_at hl 0 rfl) ?_
  obtain ⟨v1, hv1, hf⟩ := bd_s hf
  refine gt_34 C hw hv1 kw_45 dJx4a65c_isEmpty_aae02_1 ?_
  refine lv_if_ne (tgt := 11) hx hb dJx4a65c_isEmpty_aae02_4 (by decide) (fun c_2 => ?_) (fun c_2 => ?_)
  · have hf := if_f c_2 hf
    refine lv_iconst (v := 0) hx hb dJx4a65c_isEmpty_aae02_11 (by decide) ?_
    cases hf
    exact rt_z C hw hS _ rfl dJx4a65c_isEmpty_aae02_12
  · have hf := if_t c_2 hf
    refine lv_iconst (v := 1) hx hb dJx4a65c_isEmpty_aae02_7 (by decide) ?_
    refine lv_goto (tgt := 12) hx hb dJx4a65c_isEmpty_aae02_8 (by decide) ?_
    cases hf
    exact rt_z C hw hS _ rfl dJx4a65c_isEmpty_aae02_12

set_option maxRecDepth 100000 in
set_option maxHeartbeats 4000000 in
theorem tJx4a65c_isEmpty_aae02 (l : Launch) (A : Nat → Prop) (D : va_G) (cy : Nat → ClassId) (st : Nat → Nat) (sz : Nat) (sh : Sh) (d : Dt) (x0 : Nat) {r : Bool} (hf : fJx4a65c_isEmpty_aae02 sh d x0 = some r) : Ct l yJx4a65c_isEmpty_aae02 cJx4a65c_isEmpty_aae02 1 (some .boolean) 0 0 0 0 A D cy st [.ref x0] sz sh d (some (.int (bI r))) sz sh d := ct_of (by decide) (Nat.le_of_ble_eq_true rfl) (fun p e s m args below meth c C hw hS ls hl => wJx4a65c_isEmpty_aae02_b0 C x0 hf hw hS hl)
theorem dJx4a65c_size_8abf5_0 : decode cJx4a65c_size_8abf5 0 = .ok (.aload_n 0, 1) := by decide +kernel
theorem dJx4a65c_size_8abf5_1 : decode cJx4a65c_size_8abf5 1 = .ok (.getfield 48, 3) := by decide +kernel
theorem dJx4a65c_size_8abf5_4 : decode cJx4a65c_size_8abf5 4 = .ok (.ireturn, 1) := by decide +kernel
theorem cvJx4a65c_size_8abf5 : CV yJx4a65c_size_8abf5 cJx4a65c_size_8abf5 1 (some .int) 0 0 := ⟨kw_246, kw_247, kw_4, kw_248, ⟨_, _, rfl⟩, by decide, by decide +kernel, by decide +kernel, by decide +kernel⟩
def fJx4a65c_size_8abf5_b0 (sh : Sh) (d : Dt) (x0 : Nat) : Option (Int32) := bd (gI sh d 1 34 x0) fun v1 => some v1

def fJx4a65c_size_8abf5 (sh : Sh) (d : Dt) (x0 : Nat) : Option (Int32) := fJx4a65c_size_8abf5_b0 sh d x0

set_option maxRecDepth 100000 in
set_option maxHeartbeats 4000000 in
theorem wJx4a65c_size_8abf5_b0 (C : mx p s m args meth c yJx4a65c_size_8abf5 cJx4a65c_size_8abf5 1 (some .int) A D cy st) {r : Int32} {d : Dt} : ∀ (x0 : Nat), fJx4a65c_size_8abf5_b0 sh d x0 = some r → ∀ {H : Heap} {locs : List Loc} {ls : Array Slot}, HW A D cy sz sh d H → va_S A s.heap H locs → lv_has ls 1 [(0, .ref x0)] → GL p l e s m args below meth c 0 0 A D cy (some (.int r)) sz sh d H locs 0 ls [] := by
  have hx := C.1
  have hb := C.2.1
  intro x0 hf H locs ls hw hS hl
  unfold fJx4a65c_size_8abf5_b0 at hf
  refine lv_aload_n hx hb dJx4a65c_size_8abf5_0 rfl (lv_at hl 0 rfl) ?_
  obtain ⟨v1, hv1, hf⟩ := bd_s hf
  refine gt_34 C hw hv1 kw_45 dJx4a65c_size_8abf5_1 ?_
  cases hf
  exact rt_i C hw hS dJx4a65c_size_8abf5_4

set_option maxRecDepth 100000 in
set_option maxHeartbeats 4000000 in
theorem tJx4a65c_size_8abf5 (l : Launch) (A : Nat → Prop) (D : va_G) (cy : Nat → ClassId) (st : Nat → Nat) (sz : Nat) (sh : Sh) (d : Dt) (x0 : Nat) {r : Int32} (hf : fJx4a65c_size_8abf5 sh d x0 = some r) : Ct l yJx4a65c_size_8abf5 cJx4a65c_size_8abf5 1 (some .int) 0 0 0 0 A D cy st [.ref x0] sz sh d (some (.int r)) sz sh d := ct_of (by decide) (Nat.le_of_ble_eq_true rfl) (fun p e s m args below meth c C hw hS ls hl => wJx4a65c_size_8abf5_b0 C x0 hf hw hS hl)
theorem dJ8_hugeLength_7cf53_0 : decode cJ8_hugeLength_7cf53 0 = .ok (.iload_n 0, 1) := by decide +kernel
theorem dJ8_hugeLength_7cf53_1 : decode cJ8_hugeLength_7cf53 1 = .ok (.iload_n 1, 1) := by decide +kernel
theorem dJ8_hugeLength_7cf53_2 : decode cJ8_hugeLength_7cf53 2 = .ok (.iadd, 1) := by decide +kernel
theorem dJ8_hugeLength_7cf53_3 : decode cJ8_hugeLength_7cf53 3 = .ok (.istore_n 2, 1) := by decide +kernel
theorem dJ8_hugeLength_7cf53_4 : decode cJ8_hugeLength_7cf53 4 = .ok (.iload_n 2, 1) := by decide +kernel
theorem dJ8_hugeLength_7cf53_5 : decode cJ8_hugeLength_7cf53 5 = .ok (.ifCond .ge 44, 3) := by decide +kernel
theorem dJ8_hugeLength_7cf53_8 : decode cJ8_hugeLength_7cf53 8 = .ok (.new 204, 3) := by decide +kernel
theorem dJ8_hugeLength_7cf53_11 : decode cJ8_hugeLength_7cf53 11 = .ok (.dup, 1) := by decide +kernel
theorem dJ8_hugeLength_7cf53_12 : decode cJ8_hugeLength_7cf53 12 = .ok (.new 89, 3) := by decide +kernel
theorem dJ8_hugeLength_7cf53_15 : decode cJ8_hugeLength_7cf53 15 = .ok (.dup, 1) := by decide +kernel
theorem dJ8_hugeLength_7cf53_16 : decode cJ8_hugeLength_7cf53 16 = .ok (.invokespecial 91, 3) := by decide +kernel
theorem dJ8_hugeLength_7cf53_19 : decode cJ8_hugeLength_7cf53 19 = .ok (.ldc 206, 2) := by decide +kernel
theorem dJ8_hugeLength_7cf53_21 : decode cJ8_hugeLength_7cf53 21 = .ok (.invokevirtual 94, 3) := by decide +kernel
theorem dJ8_hugeLength_7cf53_24 : decode cJ8_hugeLength_7cf53 24 = .ok (.iload_n 0, 1) := by decide +kernel
theorem dJ8_hugeLength_7cf53_25 : decode cJ8_hugeLength_7cf53 25 = .ok (.invokevirtual 98, 3) := by decide +kernel
theorem dJ8_hugeLength_7cf53_28 : decode cJ8_hugeLength_7cf53 28 = .ok (.ldc 208, 2) := by decide +kernel
theorem dJ8_hugeLength_7cf53_30 : decode cJ8_hugeLength_7cf53 30 = .ok (.invokevirtual 94, 3) := by decide +kernel
theorem dJ8_hugeLength_7cf53_33 : decode cJ8_hugeLength_7cf53 33 = .ok (.iload_n 1, 1) := by decide +kernel
theorem dJ8_hugeLength_7cf53_34 : decode cJ8_hugeLength_7cf53 34 = .ok (.invokevirtual 98, 3) := by decide +kernel
theorem dJ8_hugeLength_7cf53_37 : decode cJ8_hugeLength_7cf53 37 = .ok (.ldc 210, 2) := by decide +kernel
theorem dJ8_hugeLength_7cf53_39 : decode cJ8_hugeLength_7cf53 39 = .ok (.invokevirtual 94, 3) := by decide +kernel
theorem dJ8_hugeLength_7cf53_42 : decode cJ8_hugeLength_7cf53 42 = .ok (.invokevirtual 101, 3) := by decide +kernel
theorem dJ8_hugeLength_7cf53_45 : decode cJ8_hugeLength_7cf53 45 = .ok (.invokespecial 212, 3) := by decide +kernel
theorem dJ8_hugeLength_7cf53_48 : decode cJ8_hugeLength_7cf53 48 = .ok (.athrow, 1) := by decide +kernel
theorem dJ8_hugeLength_7cf53_49 : decode cJ8_hugeLength_7cf53 49 = .ok (.iload_n 2, 1) := by decide +kernel
theorem dJ8_hugeLength_7cf53_50 : decode cJ8_hugeLength_7cf53 50 = .ok (.ldc 200, 2) := by decide +kernel
theorem dJ8_hugeLength_7cf53_52 : decode cJ8_hugeLength_7cf53 52 = .ok (.if_icmp .gt 6, 3) := by decide +kernel
theorem dJ8_hugeLength_7cf53_55 : decode cJ8_hugeLength_7cf53 55 = .ok (.ldc 200, 2) := by decide +kernel
theorem dJ8_hugeLength_7cf53_57 : decode cJ8_hugeLength_7cf53 57 = .ok (.ireturn, 1) := by decide +kernel
theorem dJ8_hugeLength_7cf53_58 : decode cJ8_hugeLength_7cf53 58 = .ok (.iload_n 2, 1) := by decide +kernel
theorem dJ8_hugeLength_7cf53_59 : decode cJ8_hugeLength_7cf53 59 = .ok (.ireturn, 1) := by decide +kernel
theorem csJ8_hugeLength_7cf53 : CS yJ8_hugeLength_7cf53 cJ8_hugeLength_7cf53 3 (some .int) 2 := ⟨kw_356, kw_12, kw_357, by decide +kernel, by decide +kernel, by decide +kernel⟩
def fJ8_hugeLength_7cf53_b0 (sh : Sh) (d : Dt) (x0 : Int32) (x1 : Int32) : Option (Int32) := if 0 ≤ (x0 + x1) then (if (2147483639 : Int32) < (x0 + x1) then (some (x0 + x1)) else (some (2147483639 : Int32))) else (none)

def fJ8_hugeLength_7cf53 (sh : Sh) (d : Dt) (x0 : Int32) (x1 : Int32) : Option (Int32) := fJ8_hugeLength_7cf53_b0 sh d x0 x1

set_option maxRecDepth 100000 in
set_option maxHeartbeats 4000000 in
theorem wJ8_hugeLength_7cf53_b0 (C : mx p s m args meth c yJ8_hugeLength_7cf53 cJ8_hugeLength_7cf53 3 (some .int) A D cy st) {r : Int32} {d : Dt} : ∀ (x0 : Int32) (x1 : Int32), fJ8_hugeLength_7cf53_b0 sh d x0 x1 = some r → ∀ {H : Heap} {locs : List Loc} {ls : Array Slot}, HW A D cy sz sh d H → va_S A s.heap H locs → lv_has ls 3 [(0, .int x0), (1, .int x1)] → GL p l e s m args below meth c 0 0 A D cy (some (.int r)) sz sh d H locs 0 ls [] := by
  have hx := C.1
  have hb := C.2.1
  intro x0 x1 hf H locs ls hw hS hl
  unfold fJ8_hugeLength_7cf53_b0 at hf
  refine lv_iload_n hx hb dJ8_hugeLength_7cf53_0 rfl (lv_at hl 0 rfl) ?_
  refine lv_iload_n hx hb dJ8_hugeLength_7cf53_1 rfl (lv_at hl 1 rfl) ?_
  refine lv_iadd hx hb dJ8_hugeLength_7cf53_2 ?_
  refine lv_istore_n (lv' := [(2, .int (x0 + x1)), (0, .int x0), (1, .int x1)]) hx hb dJ8_hugeLength_7cf53_3 rfl hl (by decide) rfl (fun ls hl => ?_)
  refine lv_iload_n hx hb dJ8_hugeLength_7cf53_4 rfl (lv_at hl 0 rfl) ?_
  refine lv_if_ge (tgt := 49) hx hb dJ8_hugeLength_7cf53_5 (by decide) (fun c_1 => ?_) (fun c_1 => ?_)
  · have hf := if_t c_1 hf
    refine lv_iload_n hx hb dJ8_hugeLength_7cf53_49 rfl (lv_at hl 0 rfl) ?_
    refine lv_ldc (v := 2147483639) hx hb C.2.2.2.2.2.1 (C.2.2.2.2.1 _ kw_354) dJ8_hugeLength_7cf53_50 ?_
    refine lv_icmp_gt (tgt := 58) hx hb dJ8_hugeLength_7cf53_52 (by decide) (fun c_2 => ?_) (fun c_2 => ?_)
    · have hf := if_t c_2 hf
      refine lv_iload_n hx hb dJ8_hugeLength_7cf53_58 rfl (lv_at hl 0 rfl) ?_
      cases hf
      exact rt_i C hw hS dJ8_hugeLength_7cf53_59
    · have hf := if_f c_2 hf
      refine lv_ldc (v := 2147483639) hx hb C.2.2.2.2.2.1 (C.2.2.2.2.1 _ kw_354) dJ8_hugeLength_7cf53_55 ?_
      cases hf
      exact rt_i C hw hS dJ8_hugeLength_7cf53_57
  · have hf := if_f c_1 hf
    cases hf

set_option maxRecDepth 100000 in
set_option maxHeartbeats 4000000 in
theorem tJ8_hugeLength_7cf53 (l : Launch) (A : Nat → Prop) (D : va_G) (cy : Nat → ClassId) (st : Nat → Nat) (sz : Nat) (sh : Sh) (d : Dt) (x0 : Int32) (x1 : Int32) {r : Int32} (hf : fJ8_hugeLength_7cf53 sh d x0 x1 = some r) : Ct l yJ8_hugeLength_7cf53 cJ8_hugeLength_7cf53 3 (some .int) 0 0 0 0 A D cy st [.int x0, .int x1] sz sh d (some (.int r)) sz sh d := ct_of (by decide) (Nat.le_of_ble_eq_true rfl) (fun p e s m args below meth c C hw hS ls hl => wJ8_hugeLength_7cf53_b0 C x0 x1 hf hw hS hl)
theorem dJ8_newLength_cabcc_0 : decode cJ8_newLength_cabcc 0 = .ok (.iload_n 0, 1) := by decide +kernel
theorem dJ8_newLength_cabcc_1 : decode cJ8_newLength_cabcc 1 = .ok (.iload_n 1, 1) := by decide +kernel
theorem dJ8_newLength_cabcc_2 : decode cJ8_newLength_cabcc 2 = .ok (.iload_n 2, 1) := by decide +kernel
theorem dJ8_newLength_cabcc_3 : decode cJ8_newLength_cabcc 3 = .ok (.invokestatic 194, 3) := by decide +kernel
theorem dJ8_newLength_cabcc_6 : decode cJ8_newLength_cabcc 6 = .ok (.iadd, 1) := by decide +kernel
theorem dJ8_newLength_cabcc_7 : decode cJ8_newLength_cabcc 7 = .ok (.istore_n 3, 1) := by decide +kernel
theorem dJ8_newLength_cabcc_8 : decode cJ8_newLength_cabcc 8 = .ok (.iconst 0, 1) := by decide +kernel
theorem dJ8_newLength_cabcc_9 : decode cJ8_newLength_cabcc 9 = .ok (.iload_n 3, 1) := by decide +kernel
theorem dJ8_newLength_cabcc_10 : decode cJ8_newLength_cabcc 10 = .ok (.if_icmp .ge 11, 3) := by decide +kernel
theorem dJ8_newLength_cabcc_13 : decode cJ8_newLength_cabcc 13 = .ok (.iload_n 3, 1) := by decide +kernel
theorem dJ8_newLength_cabcc_14 : decode cJ8_newLength_cabcc 14 = .ok (.ldc 200, 2) := by decide +kernel
theorem dJ8_newLength_cabcc_16 : decode cJ8_newLength_cabcc 16 = .ok (.if_icmp .gt 5, 3) := by decide +kernel
theorem dJ8_newLength_cabcc_19 : decode cJ8_newLength_cabcc 19 = .ok (.iload_n 3, 1) := by decide +kernel
theorem dJ8_newLength_cabcc_20 : decode cJ8_newLength_cabcc 20 = .ok (.ireturn, 1) := by decide +kernel
theorem dJ8_newLength_cabcc_21 : decode cJ8_newLength_cabcc 21 = .ok (.iload_n 0, 1) := by decide +kernel
theorem dJ8_newLength_cabcc_22 : decode cJ8_newLength_cabcc 22 = .ok (.iload_n 1, 1) := by decide +kernel
theorem dJ8_newLength_cabcc_23 : decode cJ8_newLength_cabcc 23 = .ok (.invokestatic 201, 3) := by decide +kernel
theorem dJ8_newLength_cabcc_26 : decode cJ8_newLength_cabcc 26 = .ok (.ireturn, 1) := by decide +kernel
theorem csJ8_newLength_cabcc : CS yJ8_newLength_cabcc cJ8_newLength_cabcc 4 (some .int) 3 := ⟨kw_349, kw_12, kw_350, by decide +kernel, by decide +kernel, by decide +kernel⟩
def fJ8_newLength_cabcc_b21 (sh : Sh) (d : Dt) (x0 : Int32) (x1 : Int32) : Option (Int32) := bd (fJ8_hugeLength_7cf53 sh d x0 x1) fun r2 => some r2

def fJ8_newLength_cabcc_b0 (sh : Sh) (d : Dt) (x0 : Int32) (x1 : Int32) (x2 : Int32) : Option (Int32) := if (x0 + (if x1 < x2 then x2 else x1)) ≤ (0 : Int32) then (fJ8_newLength_cabcc_b21 sh d x0 x1) else (if (2147483639 : Int32) < (x0 + (if x1 < x2 then x2 else x1)) then (fJ8_newLength_cabcc_b21 sh d x0 x1) else (some (x0 + (if x1 < x2 then x2 else x1))))

def fJ8_newLength_cabcc (sh : Sh) (d : Dt) (x0 : Int32) (x1 : Int32) (x2 : Int32) : Option (Int32) := fJ8_newLength_cabcc_b0 sh d x0 x1 x2

set_option maxRecDepth 100000 in
set_option maxHeartbeats 4000000 in
theorem wJ8_newLength_cabcc_b21 (C : mx p s m args meth c yJ8_newLength_cabcc cJ8_newLength_cabcc 4 (some .int) A D cy st) {r : Int32} {d : Dt} : ∀ (x0 : Int32) (x1 : Int32), fJ8_newLength_cabcc_b21 sh d x0 x1 = some r → ∀ {H : Heap} {locs : List Loc} {ls : Array Slot}, HW A D cy sz sh d H → va_S A s.heap H locs → lv_has ls 4 [(0, .int x0), (1, .int x1)] → GL p l e s m args below meth c 1 22 A D cy (some (.int r)) sz sh d H locs 21 ls [] := by
  have hx := C.1
  have hb := C.2.1
  intro x0 x1 hf H locs ls hw hS hl
  unfold fJ8_newLength_cabcc_b21 at hf
  refine lv_iload_n hx hb dJ8_newLength_cabcc_21 rfl (lv_at hl 0 rfl) ?_
  refine lv_iload_n hx hb dJ8_newLength_cabcc_22 rfl (lv_at hl 1 rfl) ?_
  obtain ⟨r2, h1, hf⟩ := bd_s hf
  refine cl_S0 C hw hS (tJ8_hugeLength_7cf53 l A D cy st sz sh d x0 x1 h1) csJ8_hugeLength_7cf53 kw_355 ⟨(Nat.le_of_ble_eq_true rfl), (Nat.le_of_ble_eq_true rfl)⟩ hl.1 rfl (Nat.le_of_ble_eq_true rfl) dJ8_newLength_cabcc_23 ⟨Nat.zero_le _, Nat.zero_le _⟩ (fun H locs hw hS => ?_)
  cases hf
  exact rt_i C hw hS dJ8_newLength_cabcc_26

set_option maxRecDepth 100000 in
set_option maxHeartbeats 4000000 in
theorem wJ8_newLength_cabcc_b0 (C : mx p s m args meth c yJ8_newLength_cabcc cJ8_newLength_cabcc 4 (some .int) A D cy st) {r : Int32} {d : Dt} : ∀ (x0 : Int32) (x1 : Int32) (x2 : Int32), fJ8_newLength_cabcc_b0 sh d x0 x1 x2 = some r → ∀ {H : Heap} {locs : List Loc} {ls : Array Slot}, HW A D cy sz sh d H → va_S A s.heap H locs → lv_has ls 4 [(0, .int x0), (1, .int x1), (2, .int x2)] → GL p l e s m args below meth c 1 22 A D cy (some (.int r)) sz sh d H locs 0 ls [] := by
  have hx := C.1
  have hb := C.2.1
  intro x0 x1 x2 hf H locs ls hw hS hl
  unfold fJ8_newLength_cabcc_b0 at hf
  refine lv_iload_n hx hb dJ8_newLength_cabcc_0 rfl (lv_at hl 0 rfl) ?_
  refine lv_iload_n hx hb dJ8_newLength_cabcc_1 rfl (lv_at hl 1 rfl) ?_
  refine lv_iload_n hx hb dJ8_newLength_cabcc_2 rfl (lv_at hl 2 rfl) ?_
  refine va_mmax hx hb (C.2.2.2.1.trans hl.1.symm) C.2.2.2.2.2.1 (C.2.2.2.2.1 _ kw_351) (C.2.2.2.2.1 _ kw_352) (C.2.2.2.2.1 _ kw_13) (C.2.2.2.2.1 _ kw_353) (Nat.le_of_ble_eq_true rfl) (Nat.le_of_ble_eq_true rfl) (Nat.zero_le _) (Nat.zero_le _) dJ8_newLength_cabcc_3 ?_
  refine lv_iadd hx hb dJ8_newLength_cabcc_6 ?_
  refine lv_istore_n (lv' := [(3, .int (x0 + (if x1 < x2 then x2 else x1))), (0, .int x0), (1, .int x1), (2, .int x2)]) hx hb dJ8_newLength_cabcc_7 rfl hl (by decide) rfl (fun ls hl => ?_)
  refine lv_iconst (v := 0) hx hb dJ8_newLength_cabcc_8 (by decide) ?_
  refine lv_iload_n hx hb dJ8_newLength_cabcc_9 rfl (lv_at hl 0 rfl) ?_
  refine lv_icmp_ge (tgt := 21) hx hb dJ8_newLength_cabcc_10 (by decide) (fun c_1 => ?_) (fun c_1 => ?_)
  · have hf := if_t c_1 hf
    exact wJ8_newLength_cabcc_b21 C x0 x1 hf hw hS (lv_sub hl [1, 2] rfl)
  · have hf := if_f c_1 hf
    refine lv_iload_n hx hb dJ8_newLength_cabcc_13 rfl (lv_at hl 0 rfl) ?_
    refine lv_ldc (v := 2147483639) hx hb C.2.2.2.2.2.1 (C.2.2.2.2.1 _ kw_354) dJ8_newLength_cabcc_14 ?_
    refine lv_icmp_gt (tgt := 21) hx hb dJ8_newLength_cabcc_16 (by decide) (fun c_2 => ?_) (fun c_2 => ?_)
    · have hf := if_t c_2 hf
      exact wJ8_newLength_cabcc_b21 C x0 x1 hf hw hS (lv_sub hl [1, 2] rfl)
    · have hf := if_f c_2 hf
      refine lv_iload_n hx hb dJ8_newLength_cabcc_19 rfl (lv_at hl 0 rfl) ?_
      cases hf
      exact rt_i C hw hS dJ8_newLength_cabcc_20

set_option maxRecDepth 100000 in
set_option maxHeartbeats 4000000 in
theorem tJ8_newLength_cabcc (l : Launch) (A : Nat → Prop) (D : va_G) (cy : Nat → ClassId) (st : Nat → Nat) (sz : Nat) (sh : Sh) (d : Dt) (x0 : Int32) (x1 : Int32) (x2 : Int32) {r : Int32} (hf : fJ8_newLength_cabcc sh d x0 x1 x2 = some r) : Ct l yJ8_newLength_cabcc cJ8_newLength_cabcc 4 (some .int) 1 22 0 0 A D cy st [.int x0, .int x1, .int x2] sz sh d (some (.int r)) sz sh d := ct_of (by decide) (Nat.le_of_ble_eq_true rfl) (fun p e s m args below meth c C hw hS ls hl => wJ8_newLength_cabcc_b0 C x0 x1 x2 hf hw hS hl)
theorem dJ7_copyOf_6403c_0 : decode cJ7_copyOf_6403c 0 = .ok (.aload_n 2, 1) := by decide +kernel
theorem dJ7_copyOf_6403c_1 : decode cJ7_copyOf_6403c 1 = .ok (.ldc 110, 2) := by decide +kernel
theorem dJ7_copyOf_6403c_3 : decode cJ7_copyOf_6403c 3 = .ok (.if_acmp .ne 10, 3) := by decide +kernel
theorem dJ7_copyOf_6403c_6 : decode cJ7_copyOf_6403c 6 = .ok (.iload_n 1, 1) := by decide +kernel
theorem dJ7_copyOf_6403c_7 : decode cJ7_copyOf_6403c 7 = .ok (.anewarray 2, 3) := by decide +kernel
theorem dJ7_copyOf_6403c_10 : decode cJ7_copyOf_6403c 10 = .ok (.goto 14, 3) := by decide +kernel
theorem dJ7_copyOf_6403c_13 : decode cJ7_copyOf_6403c 13 = .ok (.aload_n 2, 1) := by decide +kernel
theorem dJ7_copyOf_6403c_14 : decode cJ7_copyOf_6403c 14 = .ok (.invokevirtual 90, 3) := by decide +kernel
theorem dJ7_copyOf_6403c_17 : decode cJ7_copyOf_6403c 17 = .ok (.iload_n 1, 1) := by decide +kernel
theorem dJ7_copyOf_6403c_18 : decode cJ7_copyOf_6403c 18 = .ok (.invokestatic 95, 3) := by decide +kernel
theorem dJ7_copyOf_6403c_21 : decode cJ7_copyOf_6403c 21 = .ok (.checkcast 110, 3) := by decide +kernel
theorem dJ7_copyOf_6403c_24 : decode cJ7_copyOf_6403c 24 = .ok (.astore_n 3, 1) := by decide +kernel
theorem dJ7_copyOf_6403c_25 : decode cJ7_copyOf_6403c 25 = .ok (.aload_n 0, 1) := by decide +kernel
theorem dJ7_copyOf_6403c_26 : decode cJ7_copyOf_6403c 26 = .ok (.iconst 0, 1) := by decide +kernel
theorem dJ7_copyOf_6403c_27 : decode cJ7_copyOf_6403c 27 = .ok (.aload_n 3, 1) := by decide +kernel
theorem dJ7_copyOf_6403c_28 : decode cJ7_copyOf_6403c 28 = .ok (.iconst 0, 1) := by decide +kernel
theorem dJ7_copyOf_6403c_29 : decode cJ7_copyOf_6403c 29 = .ok (.aload_n 0, 1) := by decide +kernel
theorem dJ7_copyOf_6403c_30 : decode cJ7_copyOf_6403c 30 = .ok (.arraylength, 1) := by decide +kernel
theorem dJ7_copyOf_6403c_31 : decode cJ7_copyOf_6403c 31 = .ok (.iload_n 1, 1) := by decide +kernel
theorem dJ7_copyOf_6403c_32 : decode cJ7_copyOf_6403c 32 = .ok (.invokestatic 304, 3) := by decide +kernel
theorem dJ7_copyOf_6403c_35 : decode cJ7_copyOf_6403c 35 = .ok (.invokestatic 150, 3) := by decide +kernel
theorem dJ7_copyOf_6403c_38 : decode cJ7_copyOf_6403c 38 = .ok (.aload_n 3, 1) := by decide +kernel
theorem dJ7_copyOf_6403c_39 : decode cJ7_copyOf_6403c 39 = .ok (.areturn, 1) := by decide +kernel
theorem csJ7_copyOf_6403c : CS yJ7_copyOf_6403c cJ7_copyOf_6403c 4 (some (.array (.object "java/lang/Object"))) 3 := ⟨kw_375, kw_14, kw_376, by decide +kernel, by decide +kernel, by decide +kernel⟩
def fJ7_copyOf_6403c_b10 (em mi : Nat) (x0 : Option Nat) (x1 : Int32) (t0 : Nat) (sz : Nat) (ns : Nat) (sh : Sh) (d : Dt) : Option (Option Nat × Wl) := bd x0 fun a1 => bd (lnE sh em a1) fun v2 => bd (cpR sh d a1 (0 : Int32) t0 (0 : Int32) (if x1 < v2 then x1 else v2)) fun d3 => some ((some t0), sz, ns, sh, d3)

def fJ7_copyOf_6403c_b0 (em mi : Nat) (x0 : Option Nat) (x1 : Int32) (x2 : Option Nat) (sz : Nat) (ns : Nat) (sh : Sh) (d : Dt) : Option (Option Nat × Wl) := if x2 = (some mi) then (bw (nwA sz ns sh d 26 x1) fun szq2 nsq2 shq2 dq2 => fJ7_copyOf_6403c_b10 em mi x0 x1 sz szq2 nsq2 shq2 dq2) else (none)

def fJ7_copyOf_6403c (em mi : Nat) (x0 : Option Nat) (x1 : Int32) (x2 : Option Nat) (sz ns : Nat) (sh : Sh) (d : Dt) : Option (Option Nat × Wl) := fJ7_copyOf_6403c_b0 em mi x0 x1 x2 sz ns sh d

set_option maxRecDepth 100000 in
set_option maxHeartbeats 4000000 in
theorem mJ7_copyOf_6403c_b10 (em mi : Nat) {r : Option Nat} {sz9 ns9 : Nat} {sh9 : Sh} {d9 : Dt} : ∀ (x0 : Option Nat) (x1 : Int32) (t0 : Nat) (sz : Nat) (ns : Nat) (sh : Sh) (d : Dt), fJ7_copyOf_6403c_b10 em mi x0 x1 t0 sz ns sh d = some (r, sz9, ns9, sh9, d9) → sz ≤ sz9 ∧ ns ≤ ns9 := by
  intro x0 x1 t0 sz ns sh d hf
  unfold fJ7_copyOf_6403c_b10 at hf
  obtain ⟨a1, ea1, hg⟩ := bd_s hf
  clear hf
  subst ea1
  have hf := hg
  clear hg
  obtain ⟨v2, hv2, hf⟩ := bd_s hf
  obtain ⟨d3, hd3, hf⟩ := bd_s hf
  cases hf
  exact ⟨Nat.le_refl _, Nat.le_refl _⟩

set_option maxRecDepth 100000 in
set_option maxHeartbeats 4000000 in
theorem mJ7_copyOf_6403c_b0 (em mi : Nat) {r : Option Nat} {sz9 ns9 : Nat} {sh9 : Sh} {d9 : Dt} : ∀ (x0 : Option Nat) (x1 : Int32) (x2 : Option Nat) (sz : Nat) (ns : Nat) (sh : Sh) (d : Dt), fJ7_copyOf_6403c_b0 em mi x0 x1 x2 sz ns sh d = some (r, sz9, ns9, sh9, d9) → sz ≤ sz9 ∧ ns ≤ ns9 := by
  intro x0 x1 x2 sz ns sh d hf
  unfold fJ7_copyOf_6403c_b0 at hf
  by_cases c_1 : x2 = (some mi)
  · have hf := if_t c_1 hf
    obtain ⟨szq2, nsq2, shq2, dq2, hq2, hf⟩ := bw_s hf
    have hq := nwA_s hq2
    have hm := mJ7_copyOf_6403c_b10 em mi x0 x1 sz szq2 nsq2 shq2 dq2 hf
    omega
  · have hf := if_f c_1 hf
    cases hf

theorem gJ7_copyOf_6403c (em mi : Nat) (x0 : Option Nat) (x1 : Int32) (x2 : Option Nat) (sz ns : Nat) (sh : Sh) (d : Dt) {r : Option Nat} {sz9 ns9 : Nat} {sh9 : Sh} {d9 : Dt} (hf : fJ7_copyOf_6403c em mi x0 x1 x2 sz ns sh d = some (r, sz9, ns9, sh9, d9)) : sz ≤ sz9 ∧ ns ≤ ns9 := mJ7_copyOf_6403c_b0 em mi x0 x1 x2 sz ns sh d hf

set_option maxRecDepth 100000 in
set_option maxHeartbeats 4000000 in
theorem wJ7_copyOf_6403c_b10 (C : mx p s m args meth c yJ7_copyOf_6403c cJ7_copyOf_6403c 4 (some (.array (.object "java/lang/Object"))) A D cy st) {r : Option Nat} {sz9 ns9 : Nat} {sh9 : Sh} {d9 : Dt} {mc ms : Nat} : ∀ (x0 : Option Nat) (x1 : Int32) (t0 : Nat) (sz : Nat) (ns : Nat) (sh : Sh) (d : Dt), fJ7_copyOf_6403c_b10 (st 1) (st 2) x0 x1 t0 sz ns sh d = some (r, sz9, ns9, sh9, d9) → ∀ {cu su : Nat}, sz9 + cu = sz + mc → ns9 + su = ns + ms → ∀ {H : Heap} {locs : List Loc} {ls : Array Slot}, HW A D cy sz sh d H → va_S A s.heap H locs → lv_has ls 4 [(0, va_rf x0), (1, .int x1)] → GA p l e s m args below meth c 1 30 mc ms A D cy (some (va_rf r)) sz9 sh9 d9 H locs cu su 10 ls [.ref t0] := by
  have hx := C.1
  have hb := C.2.1
  intro x0 x1 t0 sz ns sh d hf cu su hcm hsm H locs ls hw hS hl
  have hm0 := mJ7_copyOf_6403c_b10 (st 1) (st 2) x0 x1 t0 sz ns sh d hf
  unfold fJ7_copyOf_6403c_b10 at hf
  refine lv_goto (tgt := 24) hx hb dJ7_copyOf_6403c_10 (by decide) ?_
  refine lv_astore_n (lv' := [(3, .ref t0), (0, va_rf x0), (1, .int x1)]) hx hb dJ7_copyOf_6403c_24 rfl hl (by decide) rfl (fun ls hl => ?_)
  refine lq_aload_n hx hb dJ7_copyOf_6403c_25 rfl (lv_at hl 1 rfl) ?_
  refine lv_iconst (v := 0) hx hb dJ7_copyOf_6403c_26 (by decide) ?_
  refine lv_aload_n hx hb dJ7_copyOf_6403c_27 rfl (lv_at hl 0 rfl) ?_
  refine lv_iconst (v := 0) hx hb dJ7_copyOf_6403c_28 (by decide) ?_
  refine lq_aload_n hx hb dJ7_copyOf_6403c_29 rfl (lv_at hl 1 rfl) ?_
  obtain ⟨a1, ea1, hg⟩ := bd_s hf
  clear hf
  subst ea1
  have hf := hg
  clear hg
  obtain ⟨v2, hv2, hf⟩ := bd_s hf
  refine w_lnE C hw hS hv2 dJ7_copyOf_6403c_30 ?_
  refine lv_iload_n hx hb dJ7_copyOf_6403c_31 rfl (lv_at hl 2 rfl) ?_
  refine va_mmin hx hb (C.2.2.2.1.trans hl.1.symm) C.2.2.2.2.2.1 (C.2.2.2.2.1 _ kw_380) (C.2.2.2.2.1 _ kw_381) (C.2.2.2.2.1 _ kw_13) (C.2.2.2.2.1 _ kw_382) (Nat.le_of_ble_eq_true rfl) (by simp [va_rf_c, cat_i, cat_l, cat_r]) (by show _ ≤ mc; omega) (by show _ ≤ ms; omega) dJ7_copyOf_6403c_32 ?_
  obtain ⟨d3, hd3, hf⟩ := bd_s hf
  refine w_cpR C hw hS hd3 kw_383 kw_385 kw_384 kw_15 hl.1 (Nat.le_of_ble_eq_true rfl) (Nat.le_of_ble_eq_true rfl) dJ7_copyOf_6403c_35 (fun H locs hw hS => ?_)
  refine lv_aload_n hx hb dJ7_copyOf_6403c_38 rfl (lv_at hl 0 rfl) ?_
  cases hf
  obtain rfl : mc = cu := by omega
  obtain rfl : ms = su := by omega
  exact rt_aa C hw hS dJ7_copyOf_6403c_39

set_option maxRecDepth 100000 in
set_option maxHeartbeats 4000000 in
theorem wJ7_copyOf_6403c_b0 (C : mx p s m args meth c yJ7_copyOf_6403c cJ7_copyOf_6403c 4 (some (.array (.object "java/lang/Object"))) A D cy st) {r : Option Nat} {sz9 ns9 : Nat} {sh9 : Sh} {d9 : Dt} {mc ms : Nat} : ∀ (x0 : Option Nat) (x1 : Int32) (x2 : Option Nat) (sz : Nat) (ns : Nat) (sh : Sh) (d : Dt), fJ7_copyOf_6403c_b0 (st 1) (st 2) x0 x1 x2 sz ns sh d = some (r, sz9, ns9, sh9, d9) → ∀ {cu su : Nat}, sz9 + cu = sz + mc → ns9 + su = ns + ms → ∀ {H : Heap} {locs : List Loc} {ls : Array Slot}, HW A D cy sz sh d H → va_S A s.heap H locs → lv_has ls 4 [(0, va_rf x0), (1, .int x1), (2, va_rf x2)] → GA p l e s m args below meth c 1 30 mc ms A D cy (some (va_rf r)) sz9 sh9 d9 H locs cu su 0 ls [] := by
  have hx := C.1
  have hb := C.2.1
  intro x0 x1 x2 sz ns sh d hf cu su hcm hsm H locs ls hw hS hl
  have hm0 := mJ7_copyOf_6403c_b0 (st 1) (st 2) x0 x1 x2 sz ns sh d hf
  unfold fJ7_copyOf_6403c_b0 at hf
  refine lq_aload_n hx hb dJ7_copyOf_6403c_0 rfl (lv_at hl 2 rfl) ?_
  refine va_ldcM hx hb C.2.2.2.2.2.1 (C.2.2.2.2.1 _ kw_377) C.2.2.2.2.2.2.2.1.2.2.2.2.1 dJ7_copyOf_6403c_1 ?_
  refine lv_acmp_ne (rx := x2) (ry := (some (st 2))) (tgt := 13) hx hb dJ7_copyOf_6403c_3 (by decide) (fun c_1 => ?_) (fun c_1 => ?_)
  · have hf := if_f c_1 hf
    refine lq_aload_n hx hb dJ7_copyOf_6403c_13 rfl (lv_at hl 2 rfl) ?_
    cases hf
  · have hf := if_t c_1 hf
    refine lv_iload_n hx hb dJ7_copyOf_6403c_6 rfl (lv_at hl 1 rfl) ?_
    obtain ⟨szq2, nsq2, shq2, dq2, hq2, hf⟩ := bw_s hf
    have hm := mJ7_copyOf_6403c_b10 (st 1) (st 2) x0 x1 sz szq2 nsq2 shq2 dq2 hf
    have hq := nwA_s hq2
    refine w_newq C hw hS 6 rfl (by decide) kw_379 C.2.2.2.2.2.2.2.1.2.2.1.2.2.2 rfl hq2 (by show _ ≤ mc; omega) (by show _ ≤ ms; omega) dJ7_copyOf_6403c_7 (fun H hw hS => ?_)
    exact wJ7_copyOf_6403c_b10 C x0 x1 sz szq2 nsq2 shq2 dq2 hf (by omega) (by omega) hw hS (lv_sub hl [0, 1] rfl)

set_option maxRecDepth 100000 in
set_option maxHeartbeats 4000000 in
theorem tJ7_copyOf_6403c (l : Launch) (A : Nat → Prop) (D : va_G) (cy : Nat → ClassId) (st : Nat → Nat) (x0 : Option Nat) (x1 : Int32) (x2 : Option Nat) (sz ns : Nat) (sh : Sh) (d : Dt) {r : Option Nat} {sz9 ns9 : Nat} {sh9 : Sh} {d9 : Dt} (hf : fJ7_copyOf_6403c (st 1) (st 2) x0 x1 x2 sz ns sh d = some (r, sz9, ns9, sh9, d9)) : Ct l yJ7_copyOf_6403c cJ7_copyOf_6403c 4 (some (.array (.object "java/lang/Object"))) 1 30 (sz9 - sz) (ns9 - ns) A D cy st [va_rf x0, .int x1, va_rf x2] sz sh d (some (va_rf r)) sz9 sh9 d9 := by
  have hm := gJ7_copyOf_6403c (st 1) (st 2) x0 x1 x2 sz ns sh d hf
  exact ct_of (by decide) (by simp [lg_sl, va_rf_c, cat_i, cat_l, cat_r]) (fun p e s m args below meth c C hw hS ls hl => wJ7_copyOf_6403c_b0 C x0 x1 x2 sz ns sh d hf (by omega) (by omega) hw hS (by simpa [lv_args, va_rf_c, cat_i, cat_l, cat_r] using hl))
theorem dJ7_copyOf_1904c_0 : decode cJ7_copyOf_1904c 0 = .ok (.aload_n 0, 1) := by decide +kernel
theorem dJ7_copyOf_1904c_1 : decode cJ7_copyOf_1904c 1 = .ok (.iload_n 1, 1) := by decide +kernel
theorem dJ7_copyOf_1904c_2 : decode cJ7_copyOf_1904c 2 = .ok (.aload_n 0, 1) := by decide +kernel
theorem dJ7_copyOf_1904c_3 : decode cJ7_copyOf_1904c 3 = .ok (.invokevirtual 86, 3) := by decide +kernel
theorem dJ7_copyOf_1904c_6 : decode cJ7_copyOf_1904c 6 = .ok (.invokestatic 300, 3) := by decide +kernel
theorem dJ7_copyOf_1904c_9 : decode cJ7_copyOf_1904c 9 = .ok (.areturn, 1) := by decide +kernel
theorem csJ7_copyOf_1904c : CS yJ7_copyOf_1904c cJ7_copyOf_1904c 2 (some (.array (.object "java/lang/Object"))) 2 := ⟨kw_359, kw_14, kw_360, by decide +kernel, by decide +kernel, by decide +kernel⟩
def fJ7_copyOf_1904c_b9 (em mi : Nat) (t0 : Option Nat) (sz : Nat) (ns : Nat) (sh : Sh) (d : Dt) : Option (Option Nat × Wl) := some (t0, sz, ns, sh, d)

def fJ7_copyOf_1904c_b0 (em mi : Nat) (x0 : Option Nat) (x1 : Int32) (sz : Nat) (ns : Nat) (sh : Sh) (d : Dt) : Option (Option Nat × Wl) := bd x0 fun a1 => bd (kc sh 26 a1) fun _ => bw2 (fJ7_copyOf_6403c em mi (some a1) x1 (some mi) sz ns sh d) fun r4 szq5 nsq5 shq5 dq5 => fJ7_copyOf_1904c_b9 em mi r4 szq5 nsq5 shq5 dq5

def fJ7_copyOf_1904c (em mi : Nat) (x0 : Option Nat) (x1 : Int32) (sz ns : Nat) (sh : Sh) (d : Dt) : Option (Option Nat × Wl) := fJ7_copyOf_1904c_b0 em mi x0 x1 sz ns sh d

set_option maxRecDepth 100000 in
set_option maxHeartbeats 4000000 in
theorem mJ7_copyOf_1904c_b9 (em mi : Nat) {r : Option Nat} {sz9 ns9 : Nat} {sh9 : Sh} {d9 : Dt} : ∀ (t0 : Option Nat) (sz : Nat) (ns : Nat) (sh : Sh) (d : Dt), fJ7_copyOf_1904c_b9 em mi t0 sz ns sh d = some (r, sz9, ns9, sh9, d9) → sz ≤ sz9 ∧ ns ≤ ns9 := by
  intro t0 sz ns sh d hf
  unfold fJ7_copyOf_1904c_b9 at hf
  cases hf
  exact ⟨Nat.le_refl _, Nat.le_refl _⟩

set_option maxRecDepth 100000 in
set_option maxHeartbeats 4000000 in
theorem mJ7_copyOf_1904c_b0 (em mi : Nat) {r : Option Nat} {sz9 ns9 : Nat} {sh9 : Sh} {d9 : Dt} : ∀ (x0 : Option Nat) (x1 : Int32) (sz : Nat) (ns : Nat) (sh : Sh) (d : Dt), fJ7_copyOf_1904c_b0 em mi x0 x1 sz ns sh d = some (r, sz9, ns9, sh9, d9) → sz ≤ sz9 ∧ ns ≤ ns9 := by
  intro x0 x1 sz ns sh d hf
  unfold fJ7_copyOf_1904c_b0 at hf
  obtain ⟨a1, ea1, hg⟩ := bd_s hf
  clear hf
  subst ea1
  have hf := hg
  clear hg
  obtain ⟨_, h2, hf⟩ := bd_s hf
  obtain ⟨r4, szq5, nsq5, shq5, dq5, h3, hf⟩ := bw2_s hf
  have hq := gJ7_copyOf_6403c em mi (some a1) x1 (some mi) sz ns sh d h3
  have hm := mJ7_copyOf_1904c_b9 em mi r4 szq5 nsq5 shq5 dq5 hf
  omega

theorem gJ7_copyOf_1904c (em mi : Nat) (x0 : Option Nat) (x1 : Int32) (sz ns : Nat) (sh : Sh) (d : Dt) {r : Option Nat} {sz9 ns9 : Nat} {sh9 : Sh} {d9 : Dt} (hf : fJ7_copyOf_1904c em mi x0 x1 sz ns sh d = some (r, sz9, ns9, sh9, d9)) : sz ≤ sz9 ∧ ns ≤ ns9 := mJ7_copyOf_1904c_b0 em mi x0 x1 sz ns sh d hf

set_option maxRecDepth 100000 in
set_option maxHeartbeats 4000000 in
theorem wJ7_copyOf_1904c_b9 (C : mx p s m args meth c yJ7_copyOf_1904c cJ7_copyOf_1904c 2 (some (.array (.object "java/lang/Object"))) A D cy st) {r : Option Nat} {sz9 ns9 : Nat} {sh9 : Sh} {d9 : Dt} {mc ms : Nat} : ∀ (t0 : Option Nat) (sz : Nat) (ns : Nat) (sh : Sh) (d : Dt), fJ7_copyOf_1904c_b9 (st 1) (st 2) t0 sz ns sh d = some (r, sz9, ns9, sh9, d9) → ∀ {cu su : Nat}, sz9 + cu = sz + mc → ns9 + su = ns + ms → ∀ {H : Heap} {locs : List Loc} {ls : Array Slot}, HW A D cy sz sh d H → va_S A s.heap H locs → lv_has ls 2 [] → GA p l e s m args below meth c 2 53 mc ms A D cy (some (va_rf r)) sz9 sh9 d9 H locs cu su 9 ls [va_rf t0] := by
  have hx := C.1
  have hb := C.2.1
  intro t0 sz ns sh d hf cu su hcm hsm H locs ls hw hS hl
  have hm0 := mJ7_copyOf_1904c_b9 (st 1) (st 2) t0 sz ns sh d hf
  unfold fJ7_copyOf_1904c_b9 at hf
  cases hf
  obtain rfl : mc = cu := by omega
  obtain rfl : ms = su := by omega
  exact rt_aa C hw hS dJ7_copyOf_1904c_9

set_option maxRecDepth 100000 in
set_option maxHeartbeats 4000000 in
theorem wJ7_copyOf_1904c_b0 (C : mx p s m args meth c yJ7_copyOf_1904c cJ7_copyOf_1904c 2 (some (.array (.object "java/lang/Object"))) A D cy st) {r : Option Nat} {sz9 ns9 : Nat} {sh9 : Sh} {d9 : Dt} {mc ms : Nat} : ∀ (x0 : Option Nat) (x1 : Int32) (sz : Nat) (ns : Nat) (sh : Sh) (d : Dt), fJ7_copyOf_1904c_b0 (st 1) (st 2) x0 x1 sz ns sh d = some (r, sz9, ns9, sh9, d9) → ∀ {cu su : Nat}, sz9 + cu = sz + mc → ns9 + su = ns + ms → ∀ {H : Heap} {locs : List Loc} {ls : Array Slot}, HW A D cy sz sh d H → va_S A s.heap H locs → lv_has ls 2 [(0, va_rf x0), (1, .int x1)] → GA p l e s m args below meth c 2 53 mc ms A D cy (some (va_rf r)) sz9 sh9 d9 H locs cu su 0 ls [] := by
  have hx := C.1
  have hb := C.2.1
  intro x0 x1 sz ns sh d hf cu su hcm hsm H locs ls hw hS hl
  have hm0 := mJ7_copyOf_1904c_b0 (st 1) (st 2) x0 x1 sz ns sh d hf
  unfold fJ7_copyOf_1904c_b0 at hf
  refine lq_aload_n hx hb dJ7_copyOf_1904c_0 rfl (lv_at hl 0 rfl) ?_
  refine lv_iload_n hx hb dJ7_copyOf_1904c_1 rfl (lv_at hl 1 rfl) ?_
  refine lq_aload_n hx hb dJ7_copyOf_1904c_2 rfl (lv_at hl 0 rfl) ?_
  obtain ⟨a1, ea1, hg⟩ := bd_s hf
  clear hf
  subst ea1
  have hf := hg
  clear hg
  obtain ⟨_, h2, hf⟩ := bd_s hf
  refine va_getC (C := "[Ljava/lang/Object;") hx hb (C.2.2.2.1.trans hl.1.symm) C.2.2.2.2.2.1 (C.2.2.2.2.1 _ kw_361) (va_Dc.use C.2.2.2.2.2.2.2.1.2.2.2.1) (C.2.2.2.2.1 _ kw_1179) (C.2.2.2.2.1 _ kw_362) (C.2.2.2.2.1 _ kw_373) C.2.2.2.2.2.2.2.1.2.2.2.2.1 (w_cls C hw (kc_k h2)) (Nat.le_of_ble_eq_true rfl) (by simp [va_rf_c, cat_i, cat_l, cat_r]) dJ7_copyOf_1904c_3 ?_
  obtain ⟨r4, szq5, nsq5, shq5, dq5, h3, hf⟩ := bw2_s hf
  have hm := mJ7_copyOf_1904c_b9 (st 1) (st 2) r4 szq5 nsq5 shq5 dq5 hf
  have hq := gJ7_copyOf_6403c (st 1) (st 2) (some a1) x1 (some (st 2)) sz ns sh d h3
  refine cl_S C hw hS (tJ7_copyOf_6403c l A D cy st (some a1) x1 (some (st 2)) sz ns sh d h3) csJ7_copyOf_6403c kw_374 ⟨(Nat.le_of_ble_eq_true rfl), (Nat.le_of_ble_eq_true rfl)⟩ hl.1 rfl (Nat.le_of_ble_eq_true rfl) dJ7_copyOf_1904c_6 ⟨by show _ ≤ mc; omega, by show _ ≤ ms; omega⟩ (fun H locs hw hS => ?_)
  exact wJ7_copyOf_1904c_b9 C r4 szq5 nsq5 shq5 dq5 hf (by omega) (by omega) hw hS (lv_sub hl [] rfl)

set_option maxRecDepth 100000 in
set_option maxHeartbeats 4000000 in
theorem tJ7_copyOf_1904c (l : Launch) (A : Nat → Prop) (D : va_G) (cy : Nat → ClassId) (st : Nat → Nat) (x0 : Option Nat) (x1 : Int32) (sz ns : Nat) (sh : Sh) (d : Dt) {r : Option Nat} {sz9 ns9 : Nat} {sh9 : Sh} {d9 : Dt} (hf : fJ7_copyOf_1904c (st 1) (st 2) x0 x1 sz ns sh d = some (r, sz9, ns9, sh9, d9)) : Ct l yJ7_copyOf_1904c cJ7_copyOf_1904c 2 (some (.array (.object "java/lang/Object"))) 2 53 (sz9 - sz) (ns9 - ns) A D cy st [va_rf x0, .int x1] sz sh d (some (va_rf r)) sz9 sh9 d9 := by
  have hm := gJ7_copyOf_1904c (st 1) (st 2) x0 x1 sz ns sh d hf
  exact ct_of (by decide) (by simp [lg_sl, va_rf_c, cat_i, cat_l, cat_r]) (fun p e s m args below meth c C hw hS ls hl => wJ7_copyOf_1904c_b0 C x0 x1 sz ns sh d hf (by omega) (by omega) hw hS (by simpa [lv_args, va_rf_c, cat_i, cat_l, cat_r] using hl))
theorem dJx4a65c_grow_92f84_0 : decode cJx4a65c_grow_92f84 0 = .ok (.aload_n 0, 1) := by decide +kernel
theorem dJx4a65c_grow_92f84_1 : decode cJx4a65c_grow_92f84 1 = .ok (.getfield 9, 3) := by decide +kernel
theorem dJx4a65c_grow_92f84_4 : decode cJx4a65c_grow_92f84 4 = .ok (.arraylength, 1) := by decide +kernel
theorem dJx4a65c_grow_92f84_5 : decode cJx4a65c_grow_92f84 5 = .ok (.istore_n 2, 1) := by decide +kernel
theorem dJx4a65c_grow_92f84_6 : decode cJx4a65c_grow_92f84 6 = .ok (.iload_n 2, 1) := by decide +kernel
theorem dJx4a65c_grow_92f84_7 : decode cJx4a65c_grow_92f84 7 = .ok (.ifCond .gt 13, 3) := by decide +kernel
theorem dJx4a65c_grow_92f84_10 : decode cJx4a65c_grow_92f84 10 = .ok (.aload_n 0, 1) := by decide +kernel
theorem dJx4a65c_grow_92f84_11 : decode cJx4a65c_grow_92f84 11 = .ok (.getfield 9, 3) := by decide +kernel
theorem dJx4a65c_grow_92f84_14 : decode cJx4a65c_grow_92f84 14 = .ok (.getstatic 39, 3) := by decide +kernel
theorem dJx4a65c_grow_92f84_17 : decode cJx4a65c_grow_92f84 17 = .ok (.if_acmp .eq 28, 3) := by decide +kernel
theorem dJx4a65c_grow_92f84_20 : decode cJx4a65c_grow_92f84 20 = .ok (.iload_n 2, 1) := by decide +kernel
theorem dJx4a65c_grow_92f84_21 : decode cJx4a65c_grow_92f84 21 = .ok (.iload_n 1, 1) := by decide +kernel
theorem dJx4a65c_grow_92f84_22 : decode cJx4a65c_grow_92f84 22 = .ok (.iload_n 2, 1) := by decide +kernel
theorem dJx4a65c_grow_92f84_23 : decode cJx4a65c_grow_92f84 23 = .ok (.isub, 1) := by decide +kernel
theorem dJx4a65c_grow_92f84_24 : decode cJx4a65c_grow_92f84 24 = .ok (.iload_n 2, 1) := by decide +kernel
theorem dJx4a65c_grow_92f84_25 : decode cJx4a65c_grow_92f84 25 = .ok (.iconst 1, 1) := by decide +kernel
theorem dJx4a65c_grow_92f84_26 : decode cJx4a65c_grow_92f84 26 = .ok (.ishr, 1) := by decide +kernel
theorem dJx4a65c_grow_92f84_27 : decode cJx4a65c_grow_92f84 27 = .ok (.invokestatic 73, 3) := by decide +kernel
theorem dJx4a65c_grow_92f84_30 : decode cJx4a65c_grow_92f84 30 = .ok (.istore_n 3, 1) := by decide +kernel
theorem dJx4a65c_grow_92f84_31 : decode cJx4a65c_grow_92f84 31 = .ok (.aload_n 0, 1) := by decide +kernel
theorem dJx4a65c_grow_92f84_32 : decode cJx4a65c_grow_92f84 32 = .ok (.aload_n 0, 1) := by decide +kernel
theorem dJx4a65c_grow_92f84_33 : decode cJx4a65c_grow_92f84 33 = .ok (.getfield 9, 3) := by decide +kernel
theorem dJx4a65c_grow_92f84_36 : decode cJx4a65c_grow_92f84 36 = .ok (.iload_n 3, 1) := by decide +kernel
theorem dJx4a65c_grow_92f84_37 : decode cJx4a65c_grow_92f84 37 = .ok (.invokestatic 66, 3) := by decide +kernel
theorem dJx4a65c_grow_92f84_40 : decode cJx4a65c_grow_92f84 40 = .ok (.dup_x1, 1) := by decide +kernel
theorem dJx4a65c_grow_92f84_41 : decode cJx4a65c_grow_92f84 41 = .ok (.putfield 9, 3) := by decide +kernel
theorem dJx4a65c_grow_92f84_44 : decode cJx4a65c_grow_92f84 44 = .ok (.areturn, 1) := by decide +kernel
theorem dJx4a65c_grow_92f84_45 : decode cJx4a65c_grow_92f84 45 = .ok (.aload_n 0, 1) := by decide +kernel
theorem dJx4a65c_grow_92f84_46 : decode cJx4a65c_grow_92f84 46 = .ok (.bipush 10, 2) := by decide +kernel
theorem dJx4a65c_grow_92f84_48 : decode cJx4a65c_grow_92f84 48 = .ok (.iload_n 1, 1) := by decide +kernel
theorem dJx4a65c_grow_92f84_49 : decode cJx4a65c_grow_92f84 49 = .ok (.invokestatic 79, 3) := by decide +kernel
theorem dJx4a65c_grow_92f84_52 : decode cJx4a65c_grow_92f84 52 = .ok (.anewarray 7, 3) := by decide +kernel
theorem dJx4a65c_grow_92f84_55 : decode cJx4a65c_grow_92f84 55 = .ok (.dup_x1, 1) := by decide +kernel
theorem dJx4a65c_grow_92f84_56 : decode cJx4a65c_grow_92f84 56 = .ok (.putfield 9, 3) := by decide +kernel
theorem dJx4a65c_grow_92f84_59 : decode cJx4a65c_grow_92f84 59 = .ok (.areturn, 1) := by decide +kernel
theorem cvJx4a65c_grow_92f84 : CV yJx4a65c_grow_92f84 cJx4a65c_grow_92f84 4 (some (.array (.object "java/lang/Object"))) 0 1 := ⟨kw_346, ks_8, kw_4, kw_347, ⟨_, _, rfl⟩, by decide, by decide +kernel, by decide +kernel, by decide +kernel⟩
def fJx4a65c_grow_92f84_b40 (em mi : Nat) (t0 : Nat) (t1 : Option Nat) (sz : Nat) (ns : Nat) (sh : Sh) (d : Dt) : Option (Option Nat × Wl) := bd (pR sh d 1 33 t0 t1) fun d1 => some (t1, sz, ns, sh, d1)

def fJx4a65c_grow_92f84_b20 (em mi : Nat) (x0 : Nat) (x1 : Int32) (x2 : Int32) (sz : Nat) (ns : Nat) (sh : Sh) (d : Dt) : Option (Option Nat × Wl) := bd (fJ8_newLength_cabcc sh d x2 (x1 - x2) (x2 >>> ((1 : Int32) &&& 31))) fun r2 => bd (gR sh d 1 33 x0) fun v3 => bw2 (fJ7_copyOf_1904c em mi v3 r2 sz ns sh d) fun r5 szq6 nsq6 shq6 dq6 => fJx4a65c_grow_92f84_b40 em mi x0 r5 szq6 nsq6 shq6 dq6

def fJx4a65c_grow_92f84_b55 (em mi : Nat) (t0 : Nat) (t1 : Nat) (sz : Nat) (ns : Nat) (sh : Sh) (d : Dt) : Option (Option Nat × Wl) := bd (pR sh d 1 33 t0 (some t1)) fun d1 => some ((some t1), sz, ns, sh, d1)

def fJx4a65c_grow_92f84_b0 (em mi : Nat) (x0 : Nat) (x1 : Int32) (sz : Nat) (ns : Nat) (sh : Sh) (d : Dt) : Option (Option Nat × Wl) := bd (gR sh d 1 33 x0) fun v1 => bd v1 fun a2 => bd (lnE sh em a2) fun v3 => if 0 < v3 then (fJx4a65c_grow_92f84_b20 em mi x0 x1 v3 sz ns sh d) else (bd (gR sh d 1 33 x0) fun v5 => if v5 = (some em) then (bw (nwA sz ns sh d 26 (if (10 : Int32) < x1 then x1 else (10 : Int32))) fun szq7 nsq7 shq7 dq7 => fJx4a65c_grow_92f84_b55 em mi x0 sz szq7 nsq7 shq7 dq7) else (fJx4a65c_grow_92f84_b20 em mi x0 x1 v3 sz ns sh d))

def fJx4a65c_grow_92f84 (em mi : Nat) (x0 : Nat) (x1 : Int32) (sz ns : Nat) (sh : Sh) (d : Dt) : Option (Option Nat × Wl) := fJx4a65c_grow_92f84_b0 em mi x0 x1 sz ns sh d

set_option maxRecDepth 100000 in
set_option maxHeartbeats 4000000 in
theorem mJx4a65c_grow_92f84_b40 (em mi : Nat) {r : Option Nat} {sz9 ns9 : Nat} {sh9 : Sh} {d9 : Dt} : ∀ (t0 : Nat) (t1 : Option Nat) (sz : Nat) (ns : Nat) (sh : Sh) (d : Dt), fJx4a65c_grow_92f84_b40 em mi t0 t1 sz ns sh d = some (r, sz9, ns9, sh9, d9) → sz ≤ sz9 ∧ ns ≤ ns9 := by
  intro t0 t1 sz ns sh d hf
  unfold fJx4a65c_grow_92f84_b40 at hf
  obtain ⟨d1, hd1, hf⟩ := bd_s hf
  cases hf
  exact ⟨Nat.le_refl _, Nat.le_refl _⟩

set_option maxRecDepth 100000 in
set_option maxHeartbeats 4000000 in
theorem mJx4a65c_grow_92f84_b20 (em mi : Nat) {r : Option Nat} {sz9 ns9 : Nat} {sh9 : Sh} {d9 : Dt} : ∀ (x0 : Nat) (x1 : Int32) (x2 : Int32) (sz : Nat) (ns : Nat) (sh : Sh) (d : Dt), fJx4a65c_grow_92f84_b20 em mi x0 x1 x2 sz ns sh d = some (r, sz9, ns9, sh9, d9) → sz ≤ sz9 ∧ ns ≤ ns9 := by
  intro x0 x1 x2 sz ns sh d hf
  unfold fJx4a65c_grow_92f84_b20 at hf
  obtain ⟨r2, h1, hf⟩ := bd_s hf
  obtain ⟨v3, hv3, hf⟩ := bd_s hf
  obtain ⟨r5, szq6, nsq6, shq6, dq6, h4, hf⟩ := bw2_s hf
  have hq := gJ7_copyOf_1904c em mi v3 r2 sz ns sh d h4
  have hm := mJx4a65c_grow_92f84_b40 em mi x0 r5 szq6 nsq6 shq6 dq6 hf
  omega

set_option maxRecDepth 100000 in
set_option maxHeartbeats 4000000 in
theorem mJx4a65c_grow_92f84_b55 (em mi : Nat) {r : Option Nat} {sz9 ns9 : Nat} {sh9 : Sh} {d9 : Dt} : ∀ (t0 : Nat) (t1 : Nat) (sz : Nat) (ns : Nat) (sh : Sh) (d : Dt), fJx4a65c_grow_92f84_b55 em mi t0 t1 sz ns sh d = some (r, sz9, ns9, sh9, d9) → sz ≤ sz9 ∧ ns ≤ ns9 := by
  intro t0 t1 sz ns sh d hf
  unfold fJx4a65c_grow_92f84_b55 at hf
  obtain ⟨d1, hd1, hf⟩ := bd_s hf
  cases hf
  exact ⟨Nat.le_refl _, Nat.le_refl _⟩

set_option maxRecDepth 100000 in
set_option maxHeartbeats 4000000 in
theorem mJx4a65c_grow_92f84_b0 (em mi : Nat) {r : Option Nat} {sz9 ns9 : Nat} {sh9 : Sh} {d9 : Dt} : ∀ (x0 : Nat) (x1 : Int32) (sz : Nat) (ns : Nat) (sh : Sh) (d : Dt), fJx4a65c_grow_92f84_b0 em mi x0 x1 sz ns sh d = some (r, sz9, ns9, sh9, d9) → sz ≤ sz9 ∧ ns ≤ ns9 := by
  intro x0 x1 sz ns sh d hf
  unfold fJx4a65c_grow_92f84_b0 at hf
  obtain ⟨v1, hv1, hf⟩ := bd_s hf
  obtain ⟨a2, ea2, hg⟩ := bd_s hf
  clear hf
  subst ea2
  have hf := hg
  clear hg
  obtain ⟨v3, hv3, hf⟩ := bd_s hf
  by_cases c_4 : 0 < v3
  · have hf := if_t c_4 hf
    have hm := mJx4a65c_grow_92f84_b20 em mi x0 x1 v3 sz ns sh d hf
    omega
  · have hf := if_f c_4 hf
    obtain ⟨v5, hv5, hf⟩ := bd_s hf
    by_cases c_6 : v5 = (some em)
    · have hf := if_t c_6 hf
      obtain ⟨szq7, nsq7, shq7, dq7, hq7, hf⟩ := bw_s hf
      have hq := nwA_s hq7
      have hm := mJx4a65c_grow_92f84_b55 em mi x0 sz szq7 nsq7 shq7 dq7 hf
      omega
    · have hf := if_f c_6 hf
      have hm := mJx4a65c_grow_92f84_b20 em mi x0 x1 v3 sz ns sh d hf
      omega

theorem gJx4a65c_grow_92f84 (em mi : Nat) (x0 : Nat) (x1 : Int32) (sz ns : Nat) (sh : Sh) (d : Dt) {r : Option Nat} {sz9 ns9 : Nat} {sh9 : Sh} {d9 : Dt} (hf : fJx4a65c_grow_92f84 em mi x0 x1 sz ns sh d = some (r, sz9, ns9, sh9, d9)) : sz ≤ sz9 ∧ ns ≤ ns9 := mJx4a65c_grow_92f84_b0 em mi x0 x1 sz ns sh d hf

set_option maxRecDepth 100000 in
set_option maxHeartbeats 4000000 in
theorem wJx4a65c_grow_92f84_b40 (C : mx p s m args meth c yJx4a65c_grow_92f84 cJx4a65c_grow_92f84 4 (some (.array (.object "java/lang/Object"))) A D cy st) {r : Option Nat} {sz9 ns9 : Nat} {sh9 : Sh} {d9 : Dt} {mc ms : Nat} : ∀ (t0 : Nat) (t1 : Option Nat) (sz : Nat) (ns : Nat) (sh : Sh) (d : Dt), fJx4a65c_grow_92f84_b40 (st 1) (st 2) t0 t1 sz ns sh d = some (r, sz9, ns9, sh9, d9) → ∀ {cu su : Nat}, sz9 + cu = sz + mc → ns9 + su = ns + ms → ∀ {H : Heap} {locs : List Loc} {ls : Array Slot}, HW A D cy sz sh d H → va_S A s.heap H locs → lv_has ls 4 [] → GA p l e s m args below meth c 3 74 mc ms A D cy (some (va_rf r)) sz9 sh9 d9 H locs cu su 40 ls [va_rf t1, .ref t0] := by
  have hx := C.1
  have hb := C.2.1
  intro t0 t1 sz ns sh d hf cu su hcm hsm H locs ls hw hS hl
  have hm0 := mJx4a65c_grow_92f84_b40 (st 1) (st 2) t0 t1 sz ns sh d hf
  unfold fJx4a65c_grow_92f84_b40 at hf
  refine lv_dup_x1 hx hb dJx4a65c_grow_92f84_40 (va_rf_c _) rfl ?_
  obtain ⟨d1, hd1, hf⟩ := bd_s hf
  refine pt_33 C hw hS hd1 kw_44 dJx4a65c_grow_92f84_41 (fun H locs hw hS => ?_)
  cases hf
  obtain rfl : mc = cu := by omega
  obtain rfl : ms = su := by omega
  exact rt_aa C hw hS dJx4a65c_grow_92f84_44

set_option maxRecDepth 100000 in
set_option maxHeartbeats 4000000 in
theorem wJx4a65c_grow_92f84_b20 (C : mx p s m args meth c yJx4a65c_grow_92f84 cJx4a65c_grow_92f84 4 (some (.array (.object "java/lang/Object"))) A D cy st) {r : Option Nat} {sz9 ns9 : Nat} {sh9 : Sh} {d9 : Dt} {mc ms : Nat} : ∀ (x0 : Nat) (x1 : Int32) (x2 : Int32) (sz : Nat) (ns : Nat) (sh : Sh) (d : Dt), fJx4a65c_grow_92f84_b20 (st 1) (st 2) x0 x1 x2 sz ns sh d = some (r, sz9, ns9, sh9, d9) → ∀ {cu su : Nat}, sz9 + cu = sz + mc → ns9 + su = ns + ms → ∀ {H : Heap} {locs : List Loc} {ls : Array Slot}, HW A D cy sz sh d H → va_S A s.heap H locs → lv_has ls 4 [(0, .ref x0), (1, .int x1), (2, .int x2)] → GA p l e s m args below meth c 3 74 mc ms A D cy (some (va_rf r)) sz9 sh9 d9 H locs cu su 20 ls [] := by
  have hx := C.1
  have hb := C.2.1
  intro x0 x1 x2 sz ns sh d hf cu su hcm hsm H locs ls hw hS hl
  have hm0 := mJx4a65c_grow_92f84_b20 (st 1) (st 2) x0 x1 x2 sz ns sh d hf
  unfold fJx4a65c_grow_92f84_b20 at hf
  refine lv_iload_n hx hb dJx4a65c_grow_92f84_20 rfl (lv_at hl 2 rfl) ?_
  refine lv_iload_n hx hb dJx4a65c_grow_92f84_21 rfl (lv_at hl 1 rfl) ?_
  refine lv_iload_n hx hb dJx4a65c_grow_92f84_22 rfl (lv_at hl 2 rfl) ?_
  refine lv_isub hx hb dJx4a65c_grow_92f84_23 ?_
  refine lv_iload_n hx hb dJx4a65c_grow_92f84_24 rfl (lv_at hl 2 rfl) ?_
  refine lv_iconst (v := 1) hx hb dJx4a65c_grow_92f84_25 (by decide) ?_
  refine lv_ishr hx hb dJx4a65c_grow_92f84_26 ?_
  obtain ⟨r2, h1, hf⟩ := bd_s hf
  refine cl_S0 C hw hS (tJ8_newLength_cabcc l A D cy st sz sh d x2 (x1 - x2) (x2 >>> ((1 : Int32) &&& 31)) h1) csJ8_newLength_cabcc kw_348 ⟨(Nat.le_of_ble_eq_true rfl), (Nat.le_of_ble_eq_true rfl)⟩ hl.1 rfl (Nat.le_of_ble_eq_true rfl) dJx4a65c_grow_92f84_27 ⟨by show _ ≤ mc; omega, by show _ ≤ ms; omega⟩ (fun H locs hw hS => ?_)
  refine lv_istore_n (lv' := [(3, .int r2), (0, .ref x0), (1, .int x1), (2, .int x2)]) hx hb dJx4a65c_grow_92f84_30 rfl hl (by decide) rfl (fun ls hl => ?_)
  refine lv_aload_n hx hb dJx4a65c_grow_92f84_31 rfl (lv_at hl 1 rfl) ?_
  refine lv_aload_n hx hb dJx4a65c_grow_92f84_32 rfl (lv_at hl 1 rfl) ?_
  obtain ⟨v3, hv3, hf⟩ := bd_s hf
  refine gt_33 C hw hv3 kw_44 dJx4a65c_grow_92f84_33 ?_
  refine lv_iload_n hx hb dJx4a65c_grow_92f84_36 rfl (lv_at hl 0 rfl) ?_
  obtain ⟨r5, szq6, nsq6, shq6, dq6, h4, hf⟩ := bw2_s hf
  have hm := mJx4a65c_grow_92f84_b40 (st 1) (st 2) x0 r5 szq6 nsq6 shq6 dq6 hf
  have hq := gJ7_copyOf_1904c (st 1) (st 2) v3 r2 sz ns sh d h4
  refine cl_S C hw hS (tJ7_copyOf_1904c l A D cy st v3 r2 sz ns sh d h4) csJ7_copyOf_1904c kw_358 ⟨(Nat.le_of_ble_eq_true rfl), (Nat.le_of_ble_eq_true rfl)⟩ hl.1 rfl (Nat.le_of_ble_eq_true rfl) dJx4a65c_grow_92f84_37 ⟨by show _ ≤ mc; omega, by show _ ≤ ms; omega⟩ (fun H locs hw hS => ?_)
  exact wJx4a65c_grow_92f84_b40 C x0 r5 szq6 nsq6 shq6 dq6 hf (by omega) (by omega) hw hS (lv_sub hl [] rfl)

set_option maxRecDepth 100000 in
set_option maxHeartbeats 4000000 in
theorem wJx4a65c_grow_92f84_b55 (C : mx p s m args meth c yJx4a65c_grow_92f84 cJx4a65c_grow_92f84 4 (some (.array (.object "java/lang/Object"))) A D cy st) {r : Option Nat} {sz9 ns9 : Nat} {sh9 : Sh} {d9 : Dt} {mc ms : Nat} : ∀ (t0 : Nat) (t1 : Nat) (sz : Nat) (ns : Nat) (sh : Sh) (d : Dt), fJx4a65c_grow_92f84_b55 (st 1) (st 2) t0 t1 sz ns sh d = some (r, sz9, ns9, sh9, d9) → ∀ {cu su : Nat}, sz9 + cu = sz + mc → ns9 + su = ns + ms → ∀ {H : Heap} {locs : List Loc} {ls : Array Slot}, HW A D cy sz sh d H → va_S A s.heap H locs → lv_has ls 4 [] → GA p l e s m args below meth c 3 74 mc ms A D cy (some (va_rf r)) sz9 sh9 d9 H locs cu su 55 ls [.ref t1, .ref t0] := by
  have hx := C.1
  have hb := C.2.1
  intro t0 t1 sz ns sh d hf cu su hcm hsm H locs ls hw hS hl
  have hm0 := mJx4a65c_grow_92f84_b55 (st 1) (st 2) t0 t1 sz ns sh d hf
  unfold fJx4a65c_grow_92f84_b55 at hf
  refine lv_dup_x1 hx hb dJx4a65c_grow_92f84_55 rfl rfl ?_
  obtain ⟨d1, hd1, hf⟩ := bd_s hf
  refine pt_33 C hw hS hd1 kw_44 dJx4a65c_grow_92f84_56 (fun H locs hw hS => ?_)
  cases hf
  obtain rfl : mc = cu := by omega
  obtain rfl : ms = su := by omega
  exact rt_aa C hw hS dJx4a65c_grow_92f84_59

set_option maxRecDepth 100000 in
set_option maxHeartbeats 4000000 in
theorem wJx4a65c_grow_92f84_b0 (C : mx p s m args meth c yJx4a65c_grow_92f84 cJx4a65c_grow_92f84 4 (some (.array (.object "java/lang/Object"))) A D cy st) {r : Option Nat} {sz9 ns9 : Nat} {sh9 : Sh} {d9 : Dt} {mc ms : Nat} : ∀ (x0 : Nat) (x1 : Int32) (sz : Nat) (ns : Nat) (sh : Sh) (d : Dt), fJx4a65c_grow_92f84_b0 (st 1) (st 2) x0 x1 sz ns sh d = some (r, sz9, ns9, sh9, d9) → ∀ {cu su : Nat}, sz9 + cu = sz + mc → ns9 + su = ns + ms → ∀ {H : Heap} {locs : List Loc} {ls : Array Slot}, HW A D cy sz sh d H → va_S A s.heap H locs → lv_has ls 4 [(0, .ref x0), (1, .int x1)] → GA p l e s m args below meth c 3 74 mc ms A D cy (some (va_rf r)) sz9 sh9 d9 H locs cu su 0 ls [] := by
  have hx := C.1
  have hb := C.2.1
  intro x0 x1 sz ns sh d hf cu su hcm hsm H locs ls hw hS hl
  have hm0 := mJx4a65c_grow_92f84_b0 (st 1) (st 2) x0 x1 sz ns sh d hf
  unfold fJx4a65c_grow_92f84_b0 at hf
  refine lv_aload_n hx hb dJx4a65c_grow_92f84_0 rfl (lv_at hl 0 rfl) ?_
  obtain ⟨v1, hv1, hf⟩ := bd_s hf
  refine gt_33 C hw hv1 kw_44 dJx4a65c_grow_92f84_1 ?_
  obtain ⟨a2, ea2, hg⟩ := bd_s hf
  clear hf
  subst ea2
  have hf := hg
  clear hg
  obtain ⟨v3, hv3, hf⟩ := bd_s hf
  refine w_lnE C hw hS hv3 dJx4a65c_grow_92f84_4 ?_
  refine lv_istore_n (lv' := [(2, .int v3), (0, .ref x0), (1, .int x1)]) hx hb dJx4a65c_grow_92f84_5 rfl hl (by decide) rfl (fun ls hl => ?_)
  refine lv_iload_n hx hb dJx4a65c_grow_92f84_6 rfl (lv_at hl 0 rfl) ?_
  refine lv_if_gt (tgt := 20) hx hb dJx4a65c_grow_92f84_7 (by decide) (fun c_4 => ?_) (fun c_4 => ?_)
  · have hf := if_t c_4 hf
    exact wJx4a65c_grow_92f84_b20 C x0 x1 v3 sz ns sh d hf (by omega) (by omega) hw hS (lv_sub hl [1, 2, 0] rfl)
  · have hf := if_f c_4 hf
    refine lv_aload_n hx hb dJx4a65c_grow_92f84_10 rfl (lv_at hl 1 rfl) ?_
    obtain ⟨v5, hv5, hf⟩ := bd_s hf
    refine gt_33 C hw hv5 kw_44 dJx4a65c_grow_92f84_11 ?_
    refine va_gets hx hb C.2.2.2.2.2.2.2.1.2.2.2.2.2.2.2.1 hS C.2.2.2.2.2.1 (C.2.2.2.2.1 _ kw_42) (fun _ h => h) dJx4a65c_grow_92f84_14 ?_
    refine lv_acmp_eq (rx := v5) (ry := (some (st 1))) (tgt := 45) hx hb dJx4a65c_grow_92f84_17 (by decide) (fun c_6 => ?_) (fun c_6 => ?_)
    · have hf := if_t c_6 hf
      refine lv_aload_n hx hb dJx4a65c_grow_92f84_45 rfl (lv_at hl 1 rfl) ?_
      refine lv_bipush (v := 10) hx hb dJx4a65c_grow_92f84_46 (by decide) ?_
      refine lv_iload_n hx hb dJx4a65c_grow_92f84_48 rfl (lv_at hl 2 rfl) ?_
      refine va_mmax hx hb (C.2.2.2.1.trans hl.1.symm) C.2.2.2.2.2.1 (C.2.2.2.2.1 _ kw_386) (C.2.2.2.2.1 _ kw_352) (C.2.2.2.2.1 _ kw_13) (C.2.2.2.2.1 _ kw_353) (Nat.le_of_ble_eq_true rfl) (Nat.le_of_ble_eq_true rfl) (by show _ ≤ mc; omega) (by show _ ≤ ms; omega) dJx4a65c_grow_92f84_49 ?_
      obtain ⟨szq7, nsq7, shq7, dq7, hq7, hf⟩ := bw_s hf
      have hm := mJx4a65c_grow_92f84_b55 (st 1) (st 2) x0 sz szq7 nsq7 shq7 dq7 hf
      have hq := nwA_s hq7
      refine w_newq C hw hS 6 rfl (by decide) kw_387 C.2.2.2.2.2.2.2.1.2.2.1.2.2.2 rfl hq7 (by show _ ≤ mc; omega) (by show _ ≤ ms; omega) dJx4a65c_grow_92f84_52 (fun H hw hS => ?_)
      exact wJx4a65c_grow_92f84_b55 C x0 sz szq7 nsq7 shq7 dq7 hf (by omega) (by omega) hw hS (lv_sub hl [] rfl)
    · have hf := if_f c_6 hf
      exact wJx4a65c_grow_92f84_b20 C x0 x1 v3 sz ns sh d hf (by omega) (by omega) hw hS (lv_sub hl [1, 2, 0] rfl)

set_option maxRecDepth 100000 in
set_option maxHeartbeats 4000000 in
theorem tJx4a65c_grow_92f84 (l : Launch) (A : Nat → Prop) (D : va_G) (cy : Nat → ClassId) (st : Nat → Nat) (x0 : Nat) (x1 : Int32) (sz ns : Nat) (sh : Sh) (d : Dt) {r : Option Nat} {sz9 ns9 : Nat} {sh9 : Sh} {d9 : Dt} (hf : fJx4a65c_grow_92f84 (st 1) (st 2) x0 x1 sz ns sh d = some (r, sz9, ns9, sh9, d9)) : Ct l yJx4a65c_grow_92f84 cJx4a65c_grow_92f84 4 (some (.array (.object "java/lang/Object"))) 3 74 (sz9 - sz) (ns9 - ns) A D cy st [.ref x0, .int x1] sz sh d (some (va_rf r)) sz9 sh9 d9 := by
  have hm := gJx4a65c_grow_92f84 (st 1) (st 2) x0 x1 sz ns sh d hf
  exact ct_of (by decide) (Nat.le_of_ble_eq_true rfl) (fun p e s m args below meth c C hw hS ls hl => wJx4a65c_grow_92f84_b0 C x0 x1 sz ns sh d hf (by omega) (by omega) hw hS hl)
theorem dJx4a65c_grow_d5877_0 : decode cJx4a65c_grow_d5877 0 = .ok (.aload_n 0, 1) := by decide +kernel
theorem dJx4a65c_grow_d5877_1 : decode cJx4a65c_grow_d5877 1 = .ok (.aload_n 0, 1) := by decide +kernel
theorem dJx4a65c_grow_d5877_2 : decode cJx4a65c_grow_d5877 2 = .ok (.getfield 48, 3) := by decide +kernel
theorem dJx4a65c_grow_d5877_5 : decode cJx4a65c_grow_d5877 5 = .ok (.iconst 1, 1) := by decide +kernel
theorem dJx4a65c_grow_d5877_6 : decode cJx4a65c_grow_d5877 6 = .ok (.iadd, 1) := by decide +kernel
theorem dJx4a65c_grow_d5877_7 : decode cJx4a65c_grow_d5877 7 = .ok (.invokevirtual 69, 3) := by decide +kernel
theorem dJx4a65c_grow_d5877_10 : decode cJx4a65c_grow_d5877 10 = .ok (.areturn, 1) := by decide +kernel
theorem cvJx4a65c_grow_d5877 : CV yJx4a65c_grow_d5877 cJx4a65c_grow_d5877 1 (some (.array (.object "java/lang/Object"))) 0 0 := ⟨kw_342, ks_7, kw_4, kw_343, ⟨_, _, rfl⟩, by decide, by decide +kernel, by decide +kernel, by decide +kernel⟩
def fJx4a65c_grow_d5877_b10 (em mi : Nat) (t0 : Option Nat) (sz : Nat) (ns : Nat) (sh : Sh) (d : Dt) : Option (Option Nat × Wl) := some (t0, sz, ns, sh, d)

def fJx4a65c_grow_d5877_b0 (em mi : Nat) (x0 : Nat) (sz : Nat) (ns : Nat) (sh : Sh) (d : Dt) : Option (Option Nat × Wl) := bd (gI sh d 1 34 x0) fun v1 => bw2 (fJx4a65c_grow_92f84 em mi x0 (v1 + (1 : Int32)) sz ns sh d) fun r3 szq4 nsq4 shq4 dq4 => fJx4a65c_grow_d5877_b10 em mi r3 szq4 nsq4 shq4 dq4

def fJx4a65c_grow_d5877 (em mi : Nat) (x0 : Nat) (sz ns : Nat) (sh : Sh) (d : Dt) : Option (Option Nat × Wl) := fJx4a65c_grow_d5877_b0 em mi x0 sz ns sh d

set_option maxRecDepth 100000 in
set_option maxHeartbeats 4000000 in
theorem mJx4a65c_grow_d5877_b10 (em mi : Nat) {r : Option Nat} {sz9 ns9 : Nat} {sh9 : Sh} {d9 : Dt} : ∀ (t0 : Option Nat) (sz : Nat) (ns : Nat) (sh : Sh) (d : Dt), fJx4a65c_grow_d5877_b10 em mi t0 sz ns sh d = some (r, sz9, ns9, sh9, d9) → sz ≤ sz9 ∧ ns ≤ ns9 := by
  intro t0 sz ns sh d hf
  unfold fJx4a65c_grow_d5877_b10 at hf
  cases hf
  exact ⟨Nat.le_refl _, Nat.le_refl _⟩

set_option maxRecDepth 100000 in
set_option maxHeartbeats 4000000 in
theorem mJx4a65c_grow_d5877_b0 (em mi : Nat) {r : Option Nat} {sz9 ns9 : Nat} {sh9 : Sh} {d9 : Dt} : ∀ (x0 : Nat) (sz : Nat) (ns : Nat) (sh : Sh) (d : Dt), fJx4a65c_grow_d5877_b0 em mi x0 sz ns sh d = some (r, sz9, ns9, sh9, d9) → sz ≤ sz9 ∧ ns ≤ ns9 := by
  intro x0 sz ns sh d hf
  unfold fJx4a65c_grow_d5877_b0 at hf
  obtain ⟨v1, hv1, hf⟩ := bd_s hf
  obtain ⟨r3, szq4, nsq4, shq4, dq4, h2, hf⟩ := bw2_s hf
  have hq := gJx4a65c_grow_92f84 em mi x0 (v1 + (1 : Int32)) sz ns sh d h2
  have hm := mJx4a65c_grow_d5877_b10 em mi r3 szq4 nsq4 shq4 dq4 hf
  omega

theorem gJx4a65c_grow_d5877 (em mi : Nat) (x0 : Nat) (sz ns : Nat) (sh : Sh) (d : Dt) {r : Option Nat} {sz9 ns9 : Nat} {sh9 : Sh} {d9 : Dt} (hf : fJx4a65c_grow_d5877 em mi x0 sz ns sh d = some (r, sz9, ns9, sh9, d9)) : sz ≤ sz9 ∧ ns ≤ ns9 := mJx4a65c_grow_d5877_b0 em mi x0 sz ns sh d hf

set_option maxRecDepth 100000 in
set_option maxHeartbeats 4000000 in
theorem wJx4a65c_grow_d5877_b10 (C : mx p s m args meth c yJx4a65c_grow_d5877 cJx4a65c_grow_d5877 1 (some (.array (.object "java/lang/Object"))) A D cy st) {r : Option Nat} {sz9 ns9 : Nat} {sh9 : Sh} {d9 : Dt} {mc ms : Nat} : ∀ (t0 : Option Nat) (sz : Nat) (ns : Nat) (sh : Sh) (d : Dt), fJx4a65c_grow_d5877_b10 (st 1) (st 2) t0 sz ns sh d = some (r, sz9, ns9, sh9, d9) → ∀ {cu su : Nat}, sz9 + cu = sz + mc → ns9 + su = ns + ms → ∀ {H : Heap} {locs : List Loc} {ls : Array Slot}, HW A D cy sz sh d H → va_S A s.heap H locs → lv_has ls 1 [] → GA p l e s m args below meth c 4 97 mc ms A D cy (some (va_rf r)) sz9 sh9 d9 H locs cu su 10 ls [va_rf t0] := by
  have hx := C.1
  have hb := C.2.1
  intro t0 sz ns sh d hf cu su hcm hsm H locs ls hw hS hl
  have hm0 := mJx4a65c_grow_d5877_b10 (st 1) (st 2) t0 sz ns sh d hf
  unfold fJx4a65c_grow_d5877_b10 at hf
  cases hf
  obtain rfl : mc = cu := by omega
  obtain rfl : ms = su := by omega
  exact rt_aa C hw hS dJx4a65c_grow_d5877_10

set_option maxRecDepth 100000 in
set_option maxHeartbeats 4000000 in
theorem wJx4a65c_grow_d5877_b0 (C : mx p s m args meth c yJx4a65c_grow_d5877 cJx4a65c_grow_d5877 1 (some (.array (.object "java/lang/Object"))) A D cy st) {r : Option Nat} {sz9 ns9 : Nat} {sh9 : Sh} {d9 : Dt} {mc ms : Nat} : ∀ (x0 : Nat) (sz : Nat) (ns : Nat) (sh : Sh) (d : Dt), fJx4a65c_grow_d5877_b0 (st 1) (st 2) x0 sz ns sh d = some (r, sz9, ns9, sh9, d9) → ∀ {cu su : Nat}, sz9 + cu = sz + mc → ns9 + su = ns + ms → ∀ {H : Heap} {locs : List Loc} {ls : Array Slot}, HW A D cy sz sh d H → va_S A s.heap H locs → lv_has ls 1 [(0, .ref x0)] → GA p l e s m args below meth c 4 97 mc ms A D cy (some (va_rf r)) sz9 sh9 d9 H locs cu su 0 ls [] := by
  have hx := C.1
  have hb := C.2.1
  intro x0 sz ns sh d hf cu su hcm hsm H locs ls hw hS hl
  have hm0 := mJx4a65c_grow_d5877_b0 (st 1) (st 2) x0 sz ns sh d hf
  unfold fJx4a65c_grow_d5877_b0 at hf
  refine lv_aload_n hx hb dJx4a65c_grow_d5877_0 rfl (lv_at hl 0 rfl) ?_
  refine lv_aload_n hx hb dJx4a65c_grow_d5877_1 rfl (lv_at hl 0 rfl) ?_
  obtain ⟨v1, hv1, hf⟩ := bd_s hf
  refine gt_34 C hw hv1 kw_45 dJx4a65c_grow_d5877_2 ?_
  refine lv_iconst (v := 1) hx hb dJx4a65c_grow_d5877_5 (by decide) ?_
  refine lv_iadd hx hb dJx4a65c_grow_d5877_6 ?_
  obtain ⟨r3, szq4, nsq4, shq4, dq4, h2, hf⟩ := bw2_s hf
  have hm := mJx4a65c_grow_d5877_b10 (st 1) (st 2) r3 szq4 nsq4 shq4 dq4 hf
  have hq := gJx4a65c_grow_92f84 (st 1) (st 2) x0 (v1 + (1 : Int32)) sz ns sh d h2
  refine cl_V C hw hS (tJx4a65c_grow_92f84 l A D cy st x0 (v1 + (1 : Int32)) sz ns sh d h2) cvJx4a65c_grow_92f84 kw_344 (gI_s hv1).1 ⟨(Nat.le_of_ble_eq_true rfl), (Nat.le_of_ble_eq_true rfl)⟩ hl.1 rfl (Nat.le_of_ble_eq_true rfl) dJx4a65c_grow_d5877_7 ⟨by show _ ≤ mc; omega, by show _ ≤ ms; omega⟩ (fun H locs hw hS => ?_)
  exact wJx4a65c_grow_d5877_b10 C r3 szq4 nsq4 shq4 dq4 hf (by omega) (by omega) hw hS (lv_sub hl [] rfl)

set_option maxRecDepth 100000 in
set_option maxHeartbeats 4000000 in
theorem tJx4a65c_grow_d5877 (l : Launch) (A : Nat → Prop) (D : va_G) (cy : Nat → ClassId) (st : Nat → Nat) (x0 : Nat) (sz ns : Nat) (sh : Sh) (d : Dt) {r : Option Nat} {sz9 ns9 : Nat} {sh9 : Sh} {d9 : Dt} (hf : fJx4a65c_grow_d5877 (st 1) (st 2) x0 sz ns sh d = some (r, sz9, ns9, sh9, d9)) : Ct l yJx4a65c_grow_d5877 cJx4a65c_grow_d5877 1 (some (.array (.object "java/lang/Object"))) 4 97 (sz9 - sz) (ns9 - ns) A D cy st [.ref x0] sz sh d (some (va_rf r)) sz9 sh9 d9 := by
  have hm := gJx4a65c_grow_d5877 (st 1) (st 2) x0 sz ns sh d hf
  exact ct_of (by decide) (Nat.le_of_ble_eq_true rfl) (fun p e s m args below meth c C hw hS ls hl => wJx4a65c_grow_d5877_b0 C x0 sz ns sh d hf (by omega) (by omega) hw hS hl)
theorem dJx4a65c_add_72be8_0 : decode cJx4a65c_add_72be8 0 = .ok (.iload_n 3, 1) := by decide +kernel
theorem dJx4a65c_add_72be8_1 : decode cJx4a65c_add_72be8 1 = .ok (.aload_n 2, 1) := by decide +kernel
theorem dJx4a65c_add_72be8_2 : decode cJx4a65c_add_72be8 2 = .ok (.arraylength, 1) := by decide +kernel
theorem dJx4a65c_add_72be8_3 : decode cJx4a65c_add_72be8 3 = .ok (.if_icmp .ne 8, 3) := by decide +kernel
theorem dJx4a65c_add_72be8_6 : decode cJx4a65c_add_72be8 6 = .ok (.aload_n 0, 1) := by decide +kernel
theorem dJx4a65c_add_72be8_7 : decode cJx4a65c_add_72be8 7 = .ok (.invokevirtual 129, 3) := by decide +kernel
theorem dJx4a65c_add_72be8_10 : decode cJx4a65c_add_72be8 10 = .ok (.astore_n 2, 1) := by decide +kernel
theorem dJx4a65c_add_72be8_11 : decode cJx4a65c_add_72be8 11 = .ok (.aload_n 2, 1) := by decide +kernel
theorem dJx4a65c_add_72be8_12 : decode cJx4a65c_add_72be8 12 = .ok (.iload_n 3, 1) := by decide +kernel
theorem dJx4a65c_add_72be8_13 : decode cJx4a65c_add_72be8 13 = .ok (.aload_n 1, 1) := by decide +kernel
theorem dJx4a65c_add_72be8_14 : decode cJx4a65c_add_72be8 14 = .ok (.aastore, 1) := by decide +kernel
theorem dJx4a65c_add_72be8_15 : decode cJx4a65c_add_72be8 15 = .ok (.aload_n 0, 1) := by decide +kernel
theorem dJx4a65c_add_72be8_16 : decode cJx4a65c_add_72be8 16 = .ok (.iload_n 3, 1) := by decide +kernel
theorem dJx4a65c_add_72be8_17 : decode cJx4a65c_add_72be8 17 = .ok (.iconst 1, 1) := by decide +kernel
theorem dJx4a65c_add_72be8_18 : decode cJx4a65c_add_72be8 18 = .ok (.iadd, 1) := by decide +kernel
theorem dJx4a65c_add_72be8_19 : decode cJx4a65c_add_72be8 19 = .ok (.putfield 48, 3) := by decide +kernel
theorem dJx4a65c_add_72be8_22 : decode cJx4a65c_add_72be8 22 = .ok (.return_, 1) := by decide +kernel
theorem cvJx4a65c_add_72be8 : CV yJx4a65c_add_72be8 cJx4a65c_add_72be8 4 none 0 3 := ⟨kw_338, ks_6, kw_4, kw_339, ⟨_, _, rfl⟩, by decide, by decide +kernel, by decide +kernel, by decide +kernel⟩
def fJx4a65c_add_72be8_b11 (em mi : Nat) (x0 : Nat) (x1 : Option Nat) (x2 : Option Nat) (x3 : Int32) (sz : Nat) (ns : Nat) (sh : Sh) (d : Dt) : Option (Wl) := bd x2 fun a1 => bd (cst sh 2 x1) fun _ => bd (sR sh d 26 a1 x3 x1) fun d2 => bd (pI sh d2 1 34 x0 (x3 + (1 : Int32))) fun d3 => some (sz, ns, sh, d3)

def fJx4a65c_add_72be8_b10 (em mi : Nat) (x0 : Nat) (x1 : Option Nat) (x3 : Int32) (t0 : Option Nat) (sz : Nat) (ns : Nat) (sh : Sh) (d : Dt) : Option (Wl) := fJx4a65c_add_72be8_b11 em mi x0 x1 t0 x3 sz ns sh d

def fJx4a65c_add_72be8_b0 (em mi : Nat) (x0 : Nat) (x1 : Option Nat) (x2 : Option Nat) (x3 : Int32) (sz : Nat) (ns : Nat) (sh : Sh) (d : Dt) : Option (Wl) := bd x2 fun a1 => bd (lnE sh em a1) fun v2 => if x3 = v2 then (bd (kc sh 1 x0) fun _ => bw2 (fJx4a65c_grow_d5877 em mi x0 sz ns sh d) fun r6 szq7 nsq7 shq7 dq7 => fJx4a65c_add_72be8_b10 em mi x0 x1 x3 r6 szq7 nsq7 shq7 dq7) else (fJx4a65c_add_72be8_b11 em mi x0 x1 (some a1) x3 sz ns sh d)

def fJx4a65c_add_72be8 (em mi : Nat) (x0 : Nat) (x1 : Option Nat) (x2 : Option Nat) (x3 : Int32) (sz ns : Nat) (sh : Sh) (d : Dt) : Option (Wl) := fJx4a65c_add_72be8_b0 em mi x0 x1 x2 x3 sz ns sh d

set_option maxRecDepth 100000 in
set_option maxHeartbeats 4000000 in
theorem mJx4a65c_add_72be8_b11 (em mi : Nat) {sz9 ns9 : Nat} {sh9 : Sh} {d9 : Dt} : ∀ (x0 : Nat) (x1 : Option Nat) (x2 : Option Nat) (x3 : Int32) (sz : Nat) (ns : Nat) (sh : Sh) (d : Dt), fJx4a65c_add_72be8_b11 em mi x0 x1 x2 x3 sz ns sh d = some (sz9, ns9, sh9, d9) → sz ≤ sz9 ∧ ns ≤ ns9 := by
  intro x0 x1 x2 x3 sz ns sh d hf
  unfold fJx4a65c_add_72be8_b11 at hf
  obtain ⟨a1, ea1, hg⟩ := bd_s hf
  clear hf
  subst ea1
  have hf := hg
  clear hg
  obtain ⟨ud2, hud2, hf⟩ := bd_s hf
  obtain ⟨d2, hd2, hf⟩ := bd_s hf
  obtain ⟨d3, hd3, hf⟩ := bd_s hf
  cases hf
  exact ⟨Nat.le_refl _, Nat.le_refl _⟩

set_option maxRecDepth 100000 in
set_option maxHeartbeats 4000000 in
theorem mJx4a65c_add_72be8_b10 (em mi : Nat) {sz9 ns9 : Nat} {sh9 : Sh} {d9 : Dt} : ∀ (x0 : Nat) (x1 : Option Nat) (x3 : Int32) (t0 : Option Nat) (sz : Nat) (ns : Nat) (sh : Sh) (d : Dt), fJx4a65c_add_72be8_b10 em mi x0 x1 x3 t0 sz ns sh d = some (sz9, ns9, sh9, d9) → sz ≤ sz9 ∧ ns ≤ ns9 := by
  intro x0 x1 x3 t0 sz ns sh d hf
  unfold fJx4a65c_add_72be8_b10 at hf
  have hm := mJx4a65c_add_72be8_b11 em mi x0 x1 t0 x3 sz ns sh d hf
  omega

set_option maxRecDepth 100000 in
set_option maxHeartbeats 4000000 in
theorem mJx4a65c_add_72be8_b0 (em mi : Nat) {sz9 ns9 : Nat} {sh9 : Sh} {d9 : Dt} : ∀ (x0 : Nat) (x1 : Option Nat) (x2 : Option Nat) (x3 : Int32) (sz : Nat) (ns : Nat) (sh : Sh) (d : Dt), fJx4a65c_add_72be8_b0 em mi x0 x1 x2 x3 sz ns sh d = some (sz9, ns9, sh9, d9) → sz ≤ sz9 ∧ ns ≤ ns9 := by
  intro x0 x1 x2 x3 sz ns sh d hf
  unfold fJx4a65c_add_72be8_b0 at hf
  obtain ⟨a1, ea1, hg⟩ := bd_s hf
  clear hf
  subst ea1
  have hf := hg
  clear hg
  obtain ⟨v2, hv2, hf⟩ := bd_s hf
  by_cases c_3 : x3 = v2
  · have hf := if_t c_3 hf
    obtain ⟨_, h4, hf⟩ := bd_s hf
    obtain ⟨r6, szq7, nsq7, shq7, dq7, h5, hf⟩ := bw2_s hf
    have hq := gJx4a65c_grow_d5877 em mi x0 sz ns sh d h5
    have hm := mJx4a65c_add_72be8_b10 em mi x0 x1 x3 r6 szq7 nsq7 shq7 dq7 hf
    omega
  · have hf := if_f c_3 hf
    have hm := mJx4a65c_add_72be8_b11 em mi x0 x1 (some a1) x3 sz ns sh d hf
    omega

theorem gJx4a65c_add_72be8 (em mi : Nat) (x0 : Nat) (x1 : Option Nat) (x2 : Option Nat) (x3 : Int32) (sz ns : Nat) (sh : Sh) (d : Dt) {sz9 ns9 : Nat} {sh9 : Sh} {d9 : Dt} (hf : fJx4a65c_add_72be8 em mi x0 x1 x2 x3 sz ns sh d = some (sz9, ns9, sh9, d9)) : sz ≤ sz9 ∧ ns ≤ ns9 := mJx4a65c_add_72be8_b0 em mi x0 x1 x2 x3 sz ns sh d hf

set_option maxRecDepth 100000 in
set_option maxHeartbeats 4000000 in
theorem wJx4a65c_add_72be8_b11 (C : mx p s m args meth c yJx4a65c_add_72be8 cJx4a65c_add_72be8 4 none A D cy st) {sz9 ns9 : Nat} {sh9 : Sh} {d9 : Dt} {mc ms : Nat} : ∀ (x0 : Nat) (x1 : Option Nat) (x2 : Option Nat) (x3 : Int32) (sz : Nat) (ns : Nat) (sh : Sh) (d : Dt), fJx4a65c_add_72be8_b11 (st 1) (st 2) x0 x1 x2 x3 sz ns sh d = some (sz9, ns9, sh9, d9) → ∀ {cu su : Nat}, sz9 + cu = sz + mc → ns9 + su = ns + ms → ∀ {H : Heap} {locs : List Loc} {ls : Array Slot}, HW A D cy sz sh d H → va_S A s.heap H locs → lv_has ls 4 [(0, .ref x0), (1, va_rf x1), (2, va_rf x2), (3, .int x3)] → GA p l e s m args below meth c 5 117 mc ms A D cy none sz9 sh9 d9 H locs cu su 11 ls [] := by
  have hx := C.1
  have hb := C.2.1
  intro x0 x1 x2 x3 sz ns sh d hf cu su hcm hsm H locs ls hw hS hl
  have hm0 := mJx4a65c_add_72be8_b11 (st 1) (st 2) x0 x1 x2 x3 sz ns sh d hf
  unfold fJx4a65c_add_72be8_b11 at hf
  refine lq_aload_n hx hb dJx4a65c_add_72be8_11 rfl (lv_at hl 2 rfl) ?_
  refine lv_iload_n hx hb dJx4a65c_add_72be8_12 rfl (lv_at hl 3 rfl) ?_
  refine lq_aload_n hx hb dJx4a65c_add_72be8_13 rfl (lv_at hl 1 rfl) ?_
  obtain ⟨a1, ea1, hg⟩ := bd_s hf
  clear hf
  subst ea1
  have hf := hg
  clear hg
  obtain ⟨ud2, hud2, hf⟩ := bd_s hf
  obtain ⟨d2, hd2, hf⟩ := bd_s hf
  refine w_aast (ci := 1) (v := x1) C hw hS 6 rfl (by decide) rfl rfl (by decide) hud2 (fun a b h1 h2 => vb_asgC (C := "ManyHands$Entry") (C.2.2.2.2.2.2.2.1.2.1 _ (by decide +kernel)) a b h1 h2) hd2 dJx4a65c_add_72be8_14 (fun H locs hw hS => ?_)
  refine lv_aload_n hx hb dJx4a65c_add_72be8_15 rfl (lv_at hl 0 rfl) ?_
  refine lv_iload_n hx hb dJx4a65c_add_72be8_16 rfl (lv_at hl 3 rfl) ?_
  refine lv_iconst (v := 1) hx hb dJx4a65c_add_72be8_17 (by decide) ?_
  refine lv_iadd hx hb dJx4a65c_add_72be8_18 ?_
  obtain ⟨d3, hd3, hf⟩ := bd_s hf
  refine pt_34 C hw hS hd3 kw_45 dJx4a65c_add_72be8_19 (fun H locs hw hS => ?_)
  cases hf
  obtain rfl : mc = cu := by omega
  obtain rfl : ms = su := by omega
  exact rt_v C hw hS dJx4a65c_add_72be8_22

set_option maxRecDepth 100000 in
set_option maxHeartbeats 4000000 in
theorem wJx4a65c_add_72be8_b10 (C : mx p s m args meth c yJx4a65c_add_72be8 cJx4a65c_add_72be8 4 none A D cy st) {sz9 ns9 : Nat} {sh9 : Sh} {d9 : Dt} {mc ms : Nat} : ∀ (x0 : Nat) (x1 : Option Nat) (x3 : Int32) (t0 : Option Nat) (sz : Nat) (ns : Nat) (sh : Sh) (d : Dt), fJx4a65c_add_72be8_b10 (st 1) (st 2) x0 x1 x3 t0 sz ns sh d = some (sz9, ns9, sh9, d9) → ∀ {cu su : Nat}, sz9 + cu = sz + mc → ns9 + su = ns + ms → ∀ {H : Heap} {locs : List Loc} {ls : Array Slot}, HW A D cy sz sh d H → va_S A s.heap H locs → lv_has ls 4 [(0, .ref x0), (1, va_rf x1), (3, .int x3)] → GA p l e s m args below meth c 5 117 mc ms A D cy none sz9 sh9 d9 H locs cu su 10 ls [va_rf t0] := by
  have hx := C.1
  have hb := C.2.1
  intro x0 x1 x3 t0 sz ns sh d hf cu su hcm hsm H locs ls hw hS hl
  have hm0 := mJx4a65c_add_72be8_b10 (st 1) (st 2) x0 x1 x3 t0 sz ns sh d hf
  unfold fJx4a65c_add_72be8_b10 at hf
  refine lq_astore_n (i := 2) (lv' := [(2, va_rf t0), (0, .ref x0), (1, va_rf x1), (3, .int x3)]) hx hb dJx4a65c_add_72be8_10 rfl hl (by decide) (by simp [va_rf_c, cat_i, cat_l, cat_r]) (fun ls hl => ?_)
  exact wJx4a65c_add_72be8_b11 C x0 x1 t0 x3 sz ns sh d hf (by omega) (by omega) hw hS (lv_sub hl [1, 2, 0, 3] rfl)

set_option maxRecDepth 100000 in
set_option maxHeartbeats 4000000 in
theorem wJx4a65c_add_72be8_b0 (C : mx p s m args meth c yJx4a65c_add_72be8 cJx4a65c_add_72be8 4 none A D cy st) {sz9 ns9 : Nat} {sh9 : Sh} {d9 : Dt} {mc ms : Nat} : ∀ (x0 : Nat) (x1 : Option Nat) (x2 : Option Nat) (x3 : Int32) (sz : Nat) (ns : Nat) (sh : Sh) (d : Dt), fJx4a65c_add_72be8_b0 (st 1) (st 2) x0 x1 x2 x3 sz ns sh d = some (sz9, ns9, sh9, d9) → ∀ {cu su : Nat}, sz9 + cu = sz + mc → ns9 + su = ns + ms → ∀ {H : Heap} {locs : List Loc} {ls : Array Slot}, HW A D cy sz sh d H → va_S A s.heap H locs → lv_has ls 4 [(0, .ref x0), (1, va_rf x1), (2, va_rf x2), (3, .int x3)] → GA p l e s m args below meth c 5 117 mc ms A D cy none sz9 sh9 d9 H locs cu su 0 ls [] := by
  have hx := C.1
  have hb := C.2.1
  intro x0 x1 x2 x3 sz ns sh d hf cu su hcm hsm H locs ls hw hS hl
  have hm0 := mJx4a65c_add_72be8_b0 (st 1) (st 2) x0 x1 x2 x3 sz ns sh d hf
  unfold fJx4a65c_add_72be8_b0 at hf
  refine lv_iload_n hx hb dJx4a65c_add_72be8_0 rfl (lv_at hl 3 rfl) ?_
  refine lq_aload_n hx hb dJx4a65c_add_72be8_1 rfl (lv_at hl 2 rfl) ?_
  obtain ⟨a1, ea1, hg⟩ := bd_s hf
  clear hf
  subst ea1
  have hf := hg
  clear hg
  obtain ⟨v2, hv2, hf⟩ := bd_s hf
  refine w_lnE C hw hS hv2 dJx4a65c_add_72be8_2 ?_
  refine lv_icmp_ne (tgt := 11) hx hb dJx4a65c_add_72be8_3 (by decide) (fun c_3 => ?_) (fun c_3 => ?_)
  · have hf := if_f c_3 hf
    exact wJx4a65c_add_72be8_b11 C x0 x1 (some a1) x3 sz ns sh d hf (by omega) (by omega) hw hS (lv_sub hl [0, 1, 2, 3] rfl)
  · have hf := if_t c_3 hf
    refine lv_aload_n hx hb dJx4a65c_add_72be8_6 rfl (lv_at hl 0 rfl) ?_
    obtain ⟨_, h4, hf⟩ := bd_s hf
    obtain ⟨r6, szq7, nsq7, shq7, dq7, h5, hf⟩ := bw2_s hf
    have hm := mJx4a65c_add_72be8_b10 (st 1) (st 2) x0 x1 x3 r6 szq7 nsq7 shq7 dq7 hf
    have hq := gJx4a65c_grow_d5877 (st 1) (st 2) x0 sz ns sh d h5
    refine cl_V C hw hS (tJx4a65c_grow_d5877 l A D cy st x0 sz ns sh d h5) cvJx4a65c_grow_d5877 kw_340 (kc_k h4) ⟨(Nat.le_of_ble_eq_true rfl), (Nat.le_of_ble_eq_true rfl)⟩ hl.1 rfl (Nat.le_of_ble_eq_true rfl) dJx4a65c_add_72be8_7 ⟨by show _ ≤ mc; omega, by show _ ≤ ms; omega⟩ (fun H locs hw hS => ?_)
    exact wJx4a65c_add_72be8_b10 C x0 x1 x3 r6 szq7 nsq7 shq7 dq7 hf (by omega) (by omega) hw hS (lv_sub hl [0, 1, 3] rfl)

set_option maxRecDepth 100000 in
set_option maxHeartbeats 4000000 in
theorem tJx4a65c_add_72be8 (l : Launch) (A : Nat → Prop) (D : va_G) (cy : Nat → ClassId) (st : Nat → Nat) (x0 : Nat) (x1 : Option Nat) (x2 : Option Nat) (x3 : Int32) (sz ns : Nat) (sh : Sh) (d : Dt) {sz9 ns9 : Nat} {sh9 : Sh} {d9 : Dt} (hf : fJx4a65c_add_72be8 (st 1) (st 2) x0 x1 x2 x3 sz ns sh d = some (sz9, ns9, sh9, d9)) : Ct l yJx4a65c_add_72be8 cJx4a65c_add_72be8 4 none 5 117 (sz9 - sz) (ns9 - ns) A D cy st [.ref x0, va_rf x1, va_rf x2, .int x3] sz sh d none sz9 sh9 d9 := by
  have hm := gJx4a65c_add_72be8 (st 1) (st 2) x0 x1 x2 x3 sz ns sh d hf
  exact ct_of (by decide) (by simp [lg_sl, va_rf_c, cat_i, cat_l, cat_r]) (fun p e s m args below meth c C hw hS ls hl => wJx4a65c_add_72be8_b0 C x0 x1 x2 x3 sz ns sh d hf (by omega) (by omega) hw hS (by simpa [lv_args, va_rf_c, cat_i, cat_l, cat_r] using hl))
theorem dJx4a65c_add_9ea2d_0 : decode cJx4a65c_add_9ea2d 0 = .ok (.aload_n 0, 1) := by decide +kernel
theorem dJx4a65c_add_9ea2d_1 : decode cJx4a65c_add_9ea2d 1 = .ok (.dup, 1) := by decide +kernel
theorem dJx4a65c_add_9ea2d_2 : decode cJx4a65c_add_9ea2d 2 = .ok (.getfield 63, 3) := by decide +kernel
theorem dJx4a65c_add_9ea2d_5 : decode cJx4a65c_add_9ea2d 5 = .ok (.iconst 1, 1) := by decide +kernel
theorem dJx4a65c_add_9ea2d_6 : decode cJx4a65c_add_9ea2d 6 = .ok (.iadd, 1) := by decide +kernel
theorem dJx4a65c_add_9ea2d_7 : decode cJx4a65c_add_9ea2d 7 = .ok (.putfield 63, 3) := by decide +kernel
theorem dJx4a65c_add_9ea2d_10 : decode cJx4a65c_add_9ea2d 10 = .ok (.aload_n 0, 1) := by decide +kernel
theorem dJx4a65c_add_9ea2d_11 : decode cJx4a65c_add_9ea2d 11 = .ok (.aload_n 1, 1) := by decide +kernel
theorem dJx4a65c_add_9ea2d_12 : decode cJx4a65c_add_9ea2d 12 = .ok (.aload_n 0, 1) := by decide +kernel
theorem dJx4a65c_add_9ea2d_13 : decode cJx4a65c_add_9ea2d 13 = .ok (.getfield 9, 3) := by decide +kernel
theorem dJx4a65c_add_9ea2d_16 : decode cJx4a65c_add_9ea2d 16 = .ok (.aload_n 0, 1) := by decide +kernel
theorem dJx4a65c_add_9ea2d_17 : decode cJx4a65c_add_9ea2d 17 = .ok (.getfield 48, 3) := by decide +kernel
theorem dJx4a65c_add_9ea2d_20 : decode cJx4a65c_add_9ea2d 20 = .ok (.invokevirtual 131, 3) := by decide +kernel
theorem dJx4a65c_add_9ea2d_23 : decode cJx4a65c_add_9ea2d 23 = .ok (.iconst 1, 1) := by decide +kernel
theorem dJx4a65c_add_9ea2d_24 : decode cJx4a65c_add_9ea2d 24 = .ok (.ireturn, 1) := by decide +kernel
theorem cvJx4a65c_add_9ea2d : CV yJx4a65c_add_9ea2d cJx4a65c_add_9ea2d 2 (some .boolean) 0 1 := ⟨kw_333, kw_334, kw_4, kw_335, ⟨_, _, rfl⟩, by decide, by decide +kernel, by decide +kernel, by decide +kernel⟩
def fJx4a65c_add_9ea2d_b23 (em mi : Nat) (sz : Nat) (ns : Nat) (sh : Sh) (d : Dt) : Option (Bool × Wl) := some (true, sz, ns, sh, d)

def fJx4a65c_add_9ea2d_b0 (em mi : Nat) (x0 : Nat) (x1 : Option Nat) (sz : Nat) (ns : Nat) (sh : Sh) (d : Dt) : Option (Bool × Wl) := bd (gI sh d 1 32 x0) fun v1 => bd (pI sh d 1 32 x0 (v1 + (1 : Int32))) fun d2 => bd (gR sh d2 1 33 x0) fun v3 => bd (gI sh d2 1 34 x0) fun v4 => bw (fJx4a65c_add_72be8 em mi x0 x1 v3 v4 sz ns sh d2) fun szq7 nsq7 shq7 dq7 => fJx4a65c_add_9ea2d_b23 em mi szq7 nsq7 shq7 dq7

def fJx4a65c_add_9ea2d (em mi : Nat) (x0 : Nat) (x1 : Option Nat) (sz ns : Nat) (sh : Sh) (d : Dt) : Option (Bool × Wl) := fJx4a65c_add_9ea2d_b0 em mi x0 x1 sz ns sh d

set_option maxRecDepth 100000 in
set_option maxHeartbeats 4000000 in
theorem mJx4a65c_add_9ea2d_b23 (em mi : Nat) {r : Bool} {sz9 ns9 : Nat} {sh9 : Sh} {d9 : Dt} : ∀ (sz : Nat) (ns : Nat) (sh : Sh) (d : Dt), fJx4a65c_add_9ea2d_b23 em mi sz ns sh d = some (r, sz9, ns9, sh9, d9) → sz ≤ sz9 ∧ ns ≤ ns9 := by
  intro sz ns sh d hf
  unfold fJx4a65c_add_9ea2d_b23 at hf
  cases hf
  exact ⟨Nat.le_refl _, Nat.le_refl _⟩

set_option maxRecDepth 100000 in
set_option maxHeartbeats 4000000 in
theorem mJx4a65c_add_9ea2d_b0 (em mi : Nat) {r : Bool} {sz9 ns9 : Nat} {sh9 : Sh} {d9 : Dt} : ∀ (x0 : Nat) (x1 : Option Nat) (sz : Nat) (ns : Nat) (sh : Sh) (d : Dt), fJx4a65c_add_9ea2d_b0 em mi x0 x1 sz ns sh d = some (r, sz9, ns9, sh9, d9) → sz ≤ sz9 ∧ ns ≤ ns9 := by
  intro x0 x1 sz ns sh d hf
  unfold fJx4a65c_add_9ea2d_b0 at hf
  obtain ⟨v1, hv1, hf⟩ := bd_s hf
  obtain ⟨d2, hd2, hf⟩ := bd_s hf
  obtain ⟨v3, hv3, hf⟩ := bd_s hf
  obtain ⟨v4, hv4, hf⟩ := bd_s hf
  obtain ⟨szq7, nsq7, shq7, dq7, h5, hf⟩ := bw_s hf
  have hq := gJx4a65c_add_72be8 em mi x0 x1 v3 v4 sz ns sh d2 h5
  have hm := mJx4a65c_add_9ea2d_b23 em mi szq7 nsq7 shq7 dq7 hf
  omega

theorem gJx4a65c_add_9ea2d (em mi : Nat) (x0 : Nat) (x1 : Option Nat) (sz ns : Nat) (sh : Sh) (d : Dt) {r : Bool} {sz9 ns9 : Nat} {sh9 : Sh} {d9 : Dt} (hf : fJx4a65c_add_9ea2d em mi x0 x1 sz ns sh d = some (r, sz9, ns9, sh9, d9)) : sz ≤ sz9 ∧ ns ≤ ns9 := mJx4a65c_add_9ea2d_b0 em mi x0 x1 sz ns sh d hf

set_option maxRecDepth 100000 in
set_option maxHeartbeats 4000000 in
theorem wJx4a65c_add_9ea2d_b23 (C : mx p s m args meth c yJx4a65c_add_9ea2d cJx4a65c_add_9ea2d 2 (some .boolean) A D cy st) {r : Bool} {sz9 ns9 : Nat} {sh9 : Sh} {d9 : Dt} {mc ms : Nat} : ∀ (sz : Nat) (ns : Nat) (sh : Sh) (d : Dt), fJx4a65c_add_9ea2d_b23 (st 1) (st 2) sz ns sh d = some (r, sz9, ns9, sh9, d9) → ∀ {cu su : Nat}, sz9 + cu = sz + mc → ns9 + su = ns + ms → ∀ {H : Heap} {locs : List Loc} {ls : Array Slot}, HW A D cy sz sh d H → va_S A s.heap H locs → lv_has ls 2 [] → GA p l e s m args below meth c 6 140 mc ms A D cy (some (.int (bI r))) sz9 sh9 d9 H locs cu su 23 ls [] := by
  have hx := C.1
  have hb := C.2.1
  intro sz ns sh d hf cu su hcm hsm H locs ls hw hS hl
  have hm0 := mJx4a65c_add_9ea2d_b23 (st 1) (st 2) sz ns sh d hf
  unfold fJx4a65c_add_9ea2d_b23 at hf
  refine lv_iconst (v := 1) hx hb dJx4a65c_add_9ea2d_23 (by decide) ?_
  cases hf
  obtain rfl : mc = cu := by omega
  obtain rfl : ms = su := by omega
  exact rt_z C hw hS _ rfl dJx4a65c_add_9ea2d_24

set_option maxRecDepth 100000 in
set_option maxHeartbeats 4000000 in
theorem wJx4a65c_add_9ea2d_b0 (C : mx p s m args meth c yJx4a65c_add_9ea2d cJx4a65c_add_9ea2d 2 (some .boolean) A D cy st) {r : Bool} {sz9 ns9 : Nat} {sh9 : Sh} {d9 : Dt} {mc ms : Nat} : ∀ (x0 : Nat) (x1 : Option Nat) (sz : Nat) (ns : Nat) (sh : Sh) (d : Dt), fJx4a65c_add_9ea2d_b0 (st 1) (st 2) x0 x1 sz ns sh d = some (r, sz9, ns9, sh9, d9) → ∀ {cu su : Nat}, sz9 + cu = sz + mc → ns9 + su = ns + ms → ∀ {H : Heap} {locs : List Loc} {ls : Array Slot}, HW A D cy sz sh d H → va_S A s.heap H locs → lv_has ls 2 [(0, .ref x0), (1, va_rf x1)] → GA p l e s m args below meth c 6 140 mc ms A D cy (some (.int (bI r))) sz9 sh9 d9 H locs cu su 0 ls [] := by
  have hx := C.1
  have hb := C.2.1
  intro x0 x1 sz ns sh d hf cu su hcm hsm H locs ls hw hS hl
  have hm0 := mJx4a65c_add_9ea2d_b0 (st 1) (st 2) x0 x1 sz ns sh d hf
  unfold fJx4a65c_add_9ea2d_b0 at hf
  refine lv_aload_n hx hb dJx4a65c_add_9ea2d_0 rfl (lv_at hl 0 rfl) ?_
  refine lv_dup hx hb dJx4a65c_add_9ea2d_1 rfl ?_
  obtain ⟨v1, hv1, hf⟩ := bd_s hf
  refine gt_32 C hw hv1 kw_47 dJx4a65c_add_9ea2d_2 ?_
  refine lv_iconst (v := 1) hx hb dJx4a65c_add_9ea2d_5 (by decide) ?_
  refine lv_iadd hx hb dJx4a65c_add_9ea2d_6 ?_
  obtain ⟨d2, hd2, hf⟩ := bd_s hf
  refine pt_32 C hw hS hd2 kw_47 dJx4a65c_add_9ea2d_7 (fun H locs hw hS => ?_)
  refine lv_aload_n hx hb dJx4a65c_add_9ea2d_10 rfl (lv_at hl 0 rfl) ?_
  refine lq_aload_n hx hb dJx4a65c_add_9ea2d_11 rfl (lv_at hl 1 rfl) ?_
  refine lv_aload_n hx hb dJx4a65c_add_9ea2d_12 rfl (lv_at hl 0 rfl) ?_
  obtain ⟨v3, hv3, hf⟩ := bd_s hf
  refine gt_33 C hw hv3 kw_44 dJx4a65c_add_9ea2d_13 ?_
  refine lv_aload_n hx hb dJx4a65c_add_9ea2d_16 rfl (lv_at hl 0 rfl) ?_
  obtain ⟨v4, hv4, hf⟩ := bd_s hf
  refine gt_34 C hw hv4 kw_45 dJx4a65c_add_9ea2d_17 ?_
  obtain ⟨szq7, nsq7, shq7, dq7, h5, hf⟩ := bw_s hf
  have hm := mJx4a65c_add_9ea2d_b23 (st 1) (st 2) szq7 nsq7 shq7 dq7 hf
  have hq := gJx4a65c_add_72be8 (st 1) (st 2) x0 x1 v3 v4 sz ns sh d2 h5
  refine cl_V C hw hS (tJx4a65c_add_72be8 l A D cy st x0 x1 v3 v4 sz ns sh d2 h5) cvJx4a65c_add_72be8 kw_336 (gI_s hv4).1 ⟨(Nat.le_of_ble_eq_true rfl), (Nat.le_of_ble_eq_true rfl)⟩ hl.1 rfl (Nat.le_of_ble_eq_true rfl) dJx4a65c_add_9ea2d_20 ⟨by show _ ≤ mc; omega, by show _ ≤ ms; omega⟩ (fun H locs hw hS => ?_)
  exact wJx4a65c_add_9ea2d_b23 C szq7 nsq7 shq7 dq7 hf (by omega) (by omega) hw hS (lv_sub hl [] rfl)

set_option maxRecDepth 100000 in
set_option maxHeartbeats 4000000 in
theorem tJx4a65c_add_9ea2d (l : Launch) (A : Nat → Prop) (D : va_G) (cy : Nat → ClassId) (st : Nat → Nat) (x0 : Nat) (x1 : Option Nat) (sz ns : Nat) (sh : Sh) (d : Dt) {r : Bool} {sz9 ns9 : Nat} {sh9 : Sh} {d9 : Dt} (hf : fJx4a65c_add_9ea2d (st 1) (st 2) x0 x1 sz ns sh d = some (r, sz9, ns9, sh9, d9)) : Ct l yJx4a65c_add_9ea2d cJx4a65c_add_9ea2d 2 (some .boolean) 6 140 (sz9 - sz) (ns9 - ns) A D cy st [.ref x0, va_rf x1] sz sh d (some (.int (bI r))) sz9 sh9 d9 := by
  have hm := gJx4a65c_add_9ea2d (st 1) (st 2) x0 x1 sz ns sh d hf
  exact ct_of (by decide) (by simp [lg_sl, va_rf_c, cat_i, cat_l, cat_r]) (fun p e s m args below meth c C hw hS ls hl => wJx4a65c_add_9ea2d_b0 C x0 x1 sz ns sh d hf (by omega) (by omega) hw hS (by simpa [lv_args, va_rf_c, cat_i, cat_l, cat_r] using hl))
theorem dJ3_checkIndex_8e157_0 : decode cJ3_checkIndex_8e157 0 = .ok (.iload_n 0, 1) := by decide +kernel
theorem dJ3_checkIndex_8e157_1 : decode cJ3_checkIndex_8e157 1 = .ok (.ifCond .lt 8, 3) := by decide +kernel
theorem dJ3_checkIndex_8e157_4 : decode cJ3_checkIndex_8e157 4 = .ok (.iload_n 0, 1) := by decide +kernel
theorem dJ3_checkIndex_8e157_5 : decode cJ3_checkIndex_8e157 5 = .ok (.iload_n 1, 1) := by decide +kernel
theorem dJ3_checkIndex_8e157_6 : decode cJ3_checkIndex_8e157 6 = .ok (.if_icmp .lt 10, 3) := by decide +kernel
theorem dJ3_checkIndex_8e157_9 : decode cJ3_checkIndex_8e157 9 = .ok (.aload_n 2, 1) := by decide +kernel
theorem dJ3_checkIndex_8e157_10 : decode cJ3_checkIndex_8e157 10 = .ok (.iload_n 0, 1) := by decide +kernel
theorem dJ3_checkIndex_8e157_11 : decode cJ3_checkIndex_8e157 11 = .ok (.iload_n 1, 1) := by decide +kernel
theorem dJ3_checkIndex_8e157_12 : decode cJ3_checkIndex_8e157 12 = .ok (.invokestatic 95, 3) := by decide +kernel
theorem dJ3_checkIndex_8e157_15 : decode cJ3_checkIndex_8e157 15 = .ok (.athrow, 1) := by decide +kernel
theorem dJ3_checkIndex_8e157_16 : decode cJ3_checkIndex_8e157 16 = .ok (.iload_n 0, 1) := by decide +kernel
theorem dJ3_checkIndex_8e157_17 : decode cJ3_checkIndex_8e157 17 = .ok (.ireturn, 1) := by decide +kernel
theorem csJ3_checkIndex_8e157 : CS yJ3_checkIndex_8e157 cJ3_checkIndex_8e157 3 (some .int) 3 := ⟨kw_478, kw_17, kw_479, by decide +kernel, by decide +kernel, by decide +kernel⟩
def fJ3_checkIndex_8e157_b9 (sh : Sh) (d : Dt) (x0 : Int32) (x1 : Int32) (x2 : Option Nat) : Option (Int32) := none

def fJ3_checkIndex_8e157_b0 (sh : Sh) (d : Dt) (x0 : Int32) (x1 : Int32) (x2 : Option Nat) : Option (Int32) := if x0 < 0 then (fJ3_checkIndex_8e157_b9 sh d x0 x1 x2) else (if x0 < x1 then (some x0) else (fJ3_checkIndex_8e157_b9 sh d x0 x1 x2))

def fJ3_checkIndex_8e157 (sh : Sh) (d : Dt) (x0 : Int32) (x1 : Int32) (x2 : Option Nat) : Option (Int32) := fJ3_checkIndex_8e157_b0 sh d x0 x1 x2

set_option maxRecDepth 100000 in
set_option maxHeartbeats 4000000 in
theorem wJ3_checkIndex_8e157_b9 (C : mx p s m args meth c yJ3_checkIndex_8e157 cJ3_checkIndex_8e157 3 (some .int) A D cy st) {r : Int32} {d : Dt} : ∀ (x0 : Int32) (x1 : Int32) (x2 : Option Nat), fJ3_checkIndex_8e157_b9 sh d x0 x1 x2 = some r → ∀ {H : Heap} {locs : List Loc} {ls : Array Slot}, HW A D cy sz sh d H → va_S A s.heap H locs → lv_has ls 3 [(0, .int x0), (1, .int x1), (2, va_rf x2)] → GL p l e s m args below meth c 0 0 A D cy (some (.int r)) sz sh d H locs 9 ls [] := by
  have hx := C.1
  have hb := C.2.1
  intro x0 x1 x2 hf H locs ls hw hS hl
  unfold fJ3_checkIndex_8e157_b9 at hf
  refine lq_aload_n hx hb dJ3_checkIndex_8e157_9 rfl (lv_at hl 2 rfl) ?_
  refine lv_iload_n hx hb dJ3_checkIndex_8e157_10 rfl (lv_at hl 0 rfl) ?_
  refine lv_iload_n hx hb dJ3_checkIndex_8e157_11 rfl (lv_at hl 1 rfl) ?_
  cases hf

set_option maxRecDepth 100000 in
set_option maxHeartbeats 4000000 in
theorem wJ3_checkIndex_8e157_b0 (C : mx p s m args meth c yJ3_checkIndex_8e157 cJ3_checkIndex_8e157 3 (some .int) A D cy st) {r : Int32} {d : Dt} : ∀ (x0 : Int32) (x1 : Int32) (x2 : Option Nat), fJ3_checkIndex_8e157_b0 sh d x0 x1 x2 = some r → ∀ {H : Heap} {locs : List Loc} {ls : Array Slot}, HW A D cy sz sh d H → va_S A s.heap H locs → lv_has ls 3 [(0, .int x0), (1, .int x1), (2, va_rf x2)] → GL p l e s m args below meth c 0 0 A D cy (some (.int r)) sz sh d H locs 0 ls [] := by
  have hx := C.1
  have hb := C.2.1
  intro x0 x1 x2 hf H locs ls hw hS hl
  unfold fJ3_checkIndex_8e157_b0 at hf
  refine lv_iload_n hx hb dJ3_checkIndex_8e157_0 rfl (lv_at hl 0 rfl) ?_
  refine lv_if_lt (tgt := 9) hx hb dJ3_checkIndex_8e157_1 (by decide) (fun c_1 => ?_) (fun c_1 => ?_)
  · have hf := if_t c_1 hf
    exact wJ3_checkIndex_8e157_b9 C x0 x1 x2 hf hw hS (lv_sub hl [0, 1, 2] rfl)
  · have hf := if_f c_1 hf
    refine lv_iload_n hx hb dJ3_checkIndex_8e157_4 rfl (lv_at hl 0 rfl) ?_
    refine lv_iload_n hx hb dJ3_checkIndex_8e157_5 rfl (lv_at hl 1 rfl) ?_
    refine lv_icmp_lt (tgt := 16) hx hb dJ3_checkIndex_8e157_6 (by decide) (fun c_2 => ?_) (fun c_2 => ?_)
    · have hf := if_t c_2 hf
      refine lv_iload_n hx hb dJ3_checkIndex_8e157_16 rfl (lv_at hl 0 rfl) ?_
      cases hf
      exact rt_i C hw hS dJ3_checkIndex_8e157_17
    · have hf := if_f c_2 hf
      exact wJ3_checkIndex_8e157_b9 C x0 x1 x2 hf hw hS (lv_sub hl [0, 1, 2] rfl)

set_option maxRecDepth 100000 in
set_option maxHeartbeats 4000000 in
theorem tJ3_checkIndex_8e157 (l : Launch) (A : Nat → Prop) (D : va_G) (cy : Nat → ClassId) (st : Nat → Nat) (sz : Nat) (sh : Sh) (d : Dt) (x0 : Int32) (x1 : Int32) (x2 : Option Nat) {r : Int32} (hf : fJ3_checkIndex_8e157 sh d x0 x1 x2 = some r) : Ct l yJ3_checkIndex_8e157 cJ3_checkIndex_8e157 3 (some .int) 0 0 0 0 A D cy st [.int x0, .int x1, va_rf x2] sz sh d (some (.int r)) sz sh d := ct_of (by decide) (by simp [lg_sl, va_rf_c, cat_i, cat_l, cat_r]) (fun p e s m args below meth c C hw hS ls hl => wJ3_checkIndex_8e157_b0 C x0 x1 x2 hf hw hS (by simpa [lv_args, va_rf_c, cat_i, cat_l, cat_r] using hl))
theorem dJ15_checkIndex_7cf53_0 : decode cJ15_checkIndex_7cf53 0 = .ok (.iload_n 0, 1) := by decide +kernel
theorem dJ15_checkIndex_7cf53_1 : decode cJ15_checkIndex_7cf53 1 = .ok (.iload_n 1, 1) := by decide +kernel
theorem dJ15_checkIndex_7cf53_2 : decode cJ15_checkIndex_7cf53 2 = .ok (.aconst_null, 1) := by decide +kernel
theorem dJ15_checkIndex_7cf53_3 : decode cJ15_checkIndex_7cf53 3 = .ok (.invokestatic 105, 3) := by decide +kernel
theorem dJ15_checkIndex_7cf53_6 : decode cJ15_checkIndex_7cf53 6 = .ok (.ireturn, 1) := by decide +kernel
theorem csJ15_checkIndex_7cf53 : CS yJ15_checkIndex_7cf53 cJ15_checkIndex_7cf53 2 (some .int) 2 := ⟨kw_475, kw_16, kw_476, by decide +kernel, by decide +kernel, by decide +kernel⟩
def fJ15_checkIndex_7cf53_b0 (sh : Sh) (d : Dt) (x0 : Int32) (x1 : Int32) : Option (Int32) := bd (fJ3_checkIndex_8e157 sh d x0 x1 none) fun r2 => some r2

def fJ15_checkIndex_7cf53 (sh : Sh) (d : Dt) (x0 : Int32) (x1 : Int32) : Option (Int32) := fJ15_checkIndex_7cf53_b0 sh d x0 x1

set_option maxRecDepth 100000 in
set_option maxHeartbeats 4000000 in
theorem wJ15_checkIndex_7cf53_b0 (C : mx p s m args meth c yJ15_checkIndex_7cf53 cJ15_checkIndex_7cf53 2 (some .int) A D cy st) {r : Int32} {d : Dt} : ∀ (x0 : Int32) (x1 : Int32), fJ15_checkIndex_7cf53_b0 sh d x0 x1 = some r → ∀ {H : Heap} {locs : List Loc} {ls : Array Slot}, HW A D cy sz sh d H → va_S A s.heap H locs → lv_has ls 2 [(0, .int x0), (1, .int x1)] → GL p l e s m args below meth c 1 22 A D cy (some (.int r)) sz sh d H locs 0 ls [] := by
  have hx := C.1
  have hb := C.2.1
  intro x0 x1 hf H locs ls hw hS hl
  unfold fJ15_checkIndex_7cf53_b0 at hf
  refine lv_iload_n hx hb dJ15_checkIndex_7cf53_0 rfl (lv_at hl 0 rfl) ?_
  refine lv_iload_n hx hb dJ15_checkIndex_7cf53_1 rfl (lv_at hl 1 rfl) ?_
  refine lv_null hx hb dJ15_checkIndex_7cf53_2 ?_
  obtain ⟨r2, h1, hf⟩ := bd_s hf
  refine cl_S0 C hw hS (tJ3_checkIndex_8e157 l A D cy st sz sh d x0 x1 none h1) csJ3_checkIndex_8e157 kw_477 ⟨(Nat.le_of_ble_eq_true rfl), (Nat.le_of_ble_eq_true rfl)⟩ hl.1 rfl (Nat.le_of_ble_eq_true rfl) dJ15_checkIndex_7cf53_3 ⟨Nat.zero_le _, Nat.zero_le _⟩ (fun H locs hw hS => ?_)
  cases hf
  exact rt_i C hw hS dJ15_checkIndex_7cf53_6

set_option maxRecDepth 100000 in
set_option maxHeartbeats 4000000 in
theorem tJ15_checkIndex_7cf53 (l : Launch) (A : Nat → Prop) (D : va_G) (cy : Nat → ClassId) (st : Nat → Nat) (sz : Nat) (sh : Sh) (d : Dt) (x0 : Int32) (x1 : Int32) {r : Int32} (hf : fJ15_checkIndex_7cf53 sh d x0 x1 = some r) : Ct l yJ15_checkIndex_7cf53 cJ15_checkIndex_7cf53 2 (some .int) 1 22 0 0 A D cy st [.int x0, .int x1] sz sh d (some (.int r)) sz sh d := ct_of (by decide) (Nat.le_of_ble_eq_true rfl) (fun p e s m args below meth c C hw hS ls hl => wJ15_checkIndex_7cf53_b0 C x0 x1 hf hw hS hl)
theorem dJx4a65c_elementData_915e3_0 : decode cJx4a65c_elementData_915e3 0 = .ok (.aload_n 0, 1) := by decide +kernel
theorem dJx4a65c_elementData_915e3_1 : decode cJx4a65c_elementData_915e3 1 = .ok (.getfield 9, 3) := by decide +kernel
theorem dJx4a65c_elementData_915e3_4 : decode cJx4a65c_elementData_915e3 4 = .ok (.iload_n 1, 1) := by decide +kernel
theorem dJx4a65c_elementData_915e3_5 : decode cJx4a65c_elementData_915e3 5 = .ok (.aaload, 1) := by decide +kernel
theorem dJx4a65c_elementData_915e3_6 : decode cJx4a65c_elementData_915e3 6 = .ok (.areturn, 1) := by decide +kernel
theorem cvJx4a65c_elementData_915e3 : CV yJx4a65c_elementData_915e3 cJx4a65c_elementData_915e3 2 (some (.object "java/lang/Object")) 0 1 := ⟨kw_481, kw_482, kw_4, kw_483, ⟨_, _, rfl⟩, by decide, by decide +kernel, by decide +kernel, by decide +kernel⟩
def fJx4a65c_elementData_915e3_b0 (sh : Sh) (d : Dt) (x0 : Nat) (x1 : Int32) : Option (Option Nat) := bd (gR sh d 1 33 x0) fun v1 => bd v1 fun a2 => bd (aR sh d 26 a2 x1) fun v3 => some v3

def fJx4a65c_elementData_915e3 (sh : Sh) (d : Dt) (x0 : Nat) (x1 : Int32) : Option (Option Nat) := fJx4a65c_elementData_915e3_b0 sh d x0 x1

set_option maxRecDepth 100000 in
set_option maxHeartbeats 4000000 in
theorem wJx4a65c_elementData_915e3_b0 (C : mx p s m args meth c yJx4a65c_elementData_915e3 cJx4a65c_elementData_915e3 2 (some (.object "java/lang/Object")) A D cy st) {r : Option Nat} {d : Dt} : ∀ (x0 : Nat) (x1 : Int32), fJx4a65c_elementData_915e3_b0 sh d x0 x1 = some r → ∀ {H : Heap} {locs : List Loc} {ls : Array Slot}, HW A D cy sz sh d H → va_S A s.heap H locs → lv_has ls 2 [(0, .ref x0), (1, .int x1)] → GL p l e s m args below meth c 0 0 A D cy (some (va_rf r)) sz sh d H locs 0 ls [] := by
  have hx := C.1
  have hb := C.2.1
  intro x0 x1 hf H locs ls hw hS hl
  unfold fJx4a65c_elementData_915e3_b0 at hf
  refine lv_aload_n hx hb dJx4a65c_elementData_915e3_0 rfl (lv_at hl 0 rfl) ?_
  obtain ⟨v1, hv1, hf⟩ := bd_s hf
  refine gt_33 C hw hv1 kw_44 dJx4a65c_elementData_915e3_1 ?_
  refine lv_iload_n hx hb dJx4a65c_elementData_915e3_4 rfl (lv_at hl 1 rfl) ?_
  obtain ⟨a2, ea2, hg⟩ := bd_s hf
  clear hf
  subst ea2
  have hf := hg
  clear hg
  obtain ⟨v3, hv3, hf⟩ := bd_s hf
  refine w_aald C hw 6 rfl (by decide) rfl hv3 dJx4a65c_elementData_915e3_5 ?_
  cases hf
  exact rt_a C hw hS dJx4a65c_elementData_915e3_6

set_option maxRecDepth 100000 in
set_option maxHeartbeats 4000000 in
theorem tJx4a65c_elementData_915e3 (l : Launch) (A : Nat → Prop) (D : va_G) (cy : Nat → ClassId) (st : Nat → Nat) (sz : Nat) (sh : Sh) (d : Dt) (x0 : Nat) (x1 : Int32) {r : Option Nat} (hf : fJx4a65c_elementData_915e3 sh d x0 x1 = some r) : Ct l yJx4a65c_elementData_915e3 cJx4a65c_elementData_915e3 2 (some (.object "java/lang/Object")) 0 0 0 0 A D cy st [.ref x0, .int x1] sz sh d (some (va_rf r)) sz sh d := ct_of (by decide) (Nat.le_of_ble_eq_true rfl) (fun p e s m args below meth c C hw hS ls hl => wJx4a65c_elementData_915e3_b0 C x0 x1 hf hw hS hl)
theorem dJx4a65c_get_915e3_0 : decode cJx4a65c_get_915e3 0 = .ok (.iload_n 1, 1) := by decide +kernel
theorem dJx4a65c_get_915e3_1 : decode cJx4a65c_get_915e3 1 = .ok (.aload_n 0, 1) := by decide +kernel
theorem dJx4a65c_get_915e3_2 : decode cJx4a65c_get_915e3 2 = .ok (.getfield 48, 3) := by decide +kernel
theorem dJx4a65c_get_915e3_5 : decode cJx4a65c_get_915e3 5 = .ok (.invokestatic 118, 3) := by decide +kernel
theorem dJx4a65c_get_915e3_8 : decode cJx4a65c_get_915e3 8 = .ok (.pop, 1) := by decide +kernel
theorem dJx4a65c_get_915e3_9 : decode cJx4a65c_get_915e3 9 = .ok (.aload_n 0, 1) := by decide +kernel
theorem dJx4a65c_get_915e3_10 : decode cJx4a65c_get_915e3 10 = .ok (.iload_n 1, 1) := by decide +kernel
theorem dJx4a65c_get_915e3_11 : decode cJx4a65c_get_915e3 11 = .ok (.invokevirtual 123, 3) := by decide +kernel
theorem dJx4a65c_get_915e3_14 : decode cJx4a65c_get_915e3 14 = .ok (.areturn, 1) := by decide +kernel
theorem cvJx4a65c_get_915e3 : CV yJx4a65c_get_915e3 cJx4a65c_get_915e3 2 (some (.object "java/lang/Object")) 0 1 := ⟨kw_471, kw_472, kw_4, kw_473, ⟨_, _, rfl⟩, by decide, by decide +kernel, by decide +kernel, by decide +kernel⟩
def fJx4a65c_get_915e3_b0 (sh : Sh) (d : Dt) (x0 : Nat) (x1 : Int32) : Option (Option Nat) := bd (gI sh d 1 34 x0) fun v1 => bd (fJ15_checkIndex_7cf53 sh d x1 v1) fun r3 => bd (fJx4a65c_elementData_915e3 sh d x0 x1) fun r5 => some r5

def fJx4a65c_get_915e3 (sh : Sh) (d : Dt) (x0 : Nat) (x1 : Int32) : Option (Option Nat) := fJx4a65c_get_915e3_b0 sh d x0 x1

set_option maxRecDepth 100000 in
set_option maxHeartbeats 4000000 in
theorem wJx4a65c_get_915e3_b0 (C : mx p s m args meth c yJx4a65c_get_915e3 cJx4a65c_get_915e3 2 (some (.object "java/lang/Object")) A D cy st) {r : Option Nat} {d : Dt} : ∀ (x0 : Nat) (x1 : Int32), fJx4a65c_get_915e3_b0 sh d x0 x1 = some r → ∀ {H : Heap} {locs : List Loc} {ls : Array Slot}, HW A D cy sz sh d H → va_S A s.heap H locs → lv_has ls 2 [(0, .ref x0), (1, .int x1)] → GL p l e s m args below meth c 2 43 A D cy (some (va_rf r)) sz sh d H locs 0 ls [] := by
  have hx := C.1
  have hb := C.2.1
  intro x0 x1 hf H locs ls hw hS hl
  unfold fJx4a65c_get_915e3_b0 at hf
  refine lv_iload_n hx hb dJx4a65c_get_915e3_0 rfl (lv_at hl 1 rfl) ?_
  refine lv_aload_n hx hb dJx4a65c_get_915e3_1 rfl (lv_at hl 0 rfl) ?_
  obtain ⟨v1, hv1, hf⟩ := bd_s hf
  refine gt_34 C hw hv1 kw_45 dJx4a65c_get_915e3_2 ?_
  obtain ⟨r3, h2, hf⟩ := bd_s hf
  refine cl_S0 C hw hS (tJ15_checkIndex_7cf53 l A D cy st sz sh d x1 v1 h2) csJ15_checkIndex_7cf53 kw_474 ⟨(Nat.le_of_ble_eq_true rfl), (Nat.le_of_ble_eq_true rfl)⟩ hl.1 rfl (Nat.le_of_ble_eq_true rfl) dJx4a65c_get_915e3_5 ⟨Nat.zero_le _, Nat.zero_le _⟩ (fun H locs hw hS => ?_)
  refine lv_pop hx hb dJx4a65c_get_915e3_8 rfl ?_
  refine lv_aload_n hx hb dJx4a65c_get_915e3_9 rfl (lv_at hl 0 rfl) ?_
  refine lv_iload_n hx hb dJx4a65c_get_915e3_10 rfl (lv_at hl 1 rfl) ?_
  obtain ⟨r5, h4, hf⟩ := bd_s hf
  refine cl_V0 C hw hS (tJx4a65c_elementData_915e3 l A D cy st sz sh d x0 x1 h4) cvJx4a65c_elementData_915e3 kw_480 (gI_s hv1).1 ⟨(Nat.le_of_ble_eq_true rfl), (Nat.le_of_ble_eq_true rfl)⟩ hl.1 rfl (Nat.le_of_ble_eq_true rfl) dJx4a65c_get_915e3_11 ⟨Nat.zero_le _, Nat.zero_le _⟩ (fun H locs hw hS => ?_)
  cases hf
  exact rt_a C hw hS dJx4a65c_get_915e3_14

set_option maxRecDepth 100000 in
set_option maxHeartbeats 4000000 in
theorem tJx4a65c_get_915e3 (l : Launch) (A : Nat → Prop) (D : va_G) (cy : Nat → ClassId) (st : Nat → Nat) (sz : Nat) (sh : Sh) (d : Dt) (x0 : Nat) (x1 : Int32) {r : Option Nat} (hf : fJx4a65c_get_915e3 sh d x0 x1 = some r) : Ct l yJx4a65c_get_915e3 cJx4a65c_get_915e3 2 (some (.object "java/lang/Object")) 2 43 0 0 A D cy st [.ref x0, .int x1] sz sh d (some (va_rf r)) sz sh d := ct_of (by decide) (Nat.le_of_ble_eq_true rfl) (fun p e s m args below meth c C hw hS ls hl => wJx4a65c_get_915e3_b0 C x0 x1 hf hw hS hl)
theorem dJx4a65c_rangeCheckForAdd_d00df_0 : decode cJx4a65c_rangeCheckForAdd_d00df 0 = .ok (.iload_n 1, 1) := by decide +kernel
theorem dJx4a65c_rangeCheckForAdd_d00df_1 : decode cJx4a65c_rangeCheckForAdd_d00df 1 = .ok (.aload_n 0, 1) := by decide +kernel
theorem dJx4a65c_rangeCheckForAdd_d00df_2 : decode cJx4a65c_rangeCheckForAdd_d00df 2 = .ok (.getfield 48, 3) := by decide +kernel
theorem dJx4a65c_rangeCheckForAdd_d00df_5 : decode cJx4a65c_rangeCheckForAdd_d00df 5 = .ok (.if_icmp .gt 7, 3) := by decide +kernel
theorem dJx4a65c_rangeCheckForAdd_d00df_8 : decode cJx4a65c_rangeCheckForAdd_d00df 8 = .ok (.iload_n 1, 1) := by decide +kernel
theorem dJx4a65c_rangeCheckForAdd_d00df_9 : decode cJx4a65c_rangeCheckForAdd_d00df 9 = .ok (.ifCond .ge 16, 3) := by decide +kernel
theorem dJx4a65c_rangeCheckForAdd_d00df_12 : decode cJx4a65c_rangeCheckForAdd_d00df 12 = .ok (.new 187, 3) := by decide +kernel
theorem dJx4a65c_rangeCheckForAdd_d00df_15 : decode cJx4a65c_rangeCheckForAdd_d00df 15 = .ok (.dup, 1) := by decide +kernel
theorem dJx4a65c_rangeCheckForAdd_d00df_16 : decode cJx4a65c_rangeCheckForAdd_d00df 16 = .ok (.aload_n 0, 1) := by decide +kernel
theorem dJx4a65c_rangeCheckForAdd_d00df_17 : decode cJx4a65c_rangeCheckForAdd_d00df 17 = .ok (.iload_n 1, 1) := by decide +kernel
theorem dJx4a65c_rangeCheckForAdd_d00df_18 : decode cJx4a65c_rangeCheckForAdd_d00df 18 = .ok (.invokevirtual 198, 3) := by decide +kernel
theorem dJx4a65c_rangeCheckForAdd_d00df_21 : decode cJx4a65c_rangeCheckForAdd_d00df 21 = .ok (.invokespecial 193, 3) := by decide +kernel
theorem dJx4a65c_rangeCheckForAdd_d00df_24 : decode cJx4a65c_rangeCheckForAdd_d00df 24 = .ok (.athrow, 1) := by decide +kernel
theorem dJx4a65c_rangeCheckForAdd_d00df_25 : decode cJx4a65c_rangeCheckForAdd_d00df 25 = .ok (.return_, 1) := by decide +kernel
theorem cvJx4a65c_rangeCheckForAdd_d00df : CV yJx4a65c_rangeCheckForAdd_d00df cJx4a65c_rangeCheckForAdd_d00df 2 none 0 1 := ⟨kw_525, ks_14, kw_4, kw_526, ⟨_, _, rfl⟩, by decide, by decide +kernel, by decide +kernel, by decide +kernel⟩
def fJx4a65c_rangeCheckForAdd_d00df_b12 (sh : Sh) (d : Dt) : Option (Unit) := none

def fJx4a65c_rangeCheckForAdd_d00df_b0 (sh : Sh) (d : Dt) (x0 : Nat) (x1 : Int32) : Option (Unit) := bd (gI sh d 1 34 x0) fun v1 => if v1 < x1 then (fJx4a65c_rangeCheckForAdd_d00df_b12 sh d ) else (if 0 ≤ x1 then (some ()) else (fJx4a65c_rangeCheckForAdd_d00df_b12 sh d ))

def fJx4a65c_rangeCheckForAdd_d00df (sh : Sh) (d : Dt) (x0 : Nat) (x1 : Int32) : Option (Unit) := fJx4a65c_rangeCheckForAdd_d00df_b0 sh d x0 x1

set_option maxRecDepth 100000 in
set_option maxHeartbeats 4000000 in
theorem wJx4a65c_rangeCheckForAdd_d00df_b12 (C : mx p s m args meth c yJx4a65c_rangeCheckForAdd_d00df cJx4a65c_rangeCheckForAdd_d00df 2 none A D cy st) {d : Dt} : fJx4a65c_rangeCheckForAdd_d00df_b12 sh d  = some () → ∀ {H : Heap} {locs : List Loc} {ls : Array Slot}, HW A D cy sz sh d H → va_S A s.heap H locs → lv_has ls 2 [] → GL p l e s m args below meth c 0 0 A D cy none sz sh d H locs 12 ls [] := by
  have hx := C.1
  have hb := C.2.1
  intro  hf H locs ls hw hS hl
  unfold fJx4a65c_rangeCheckForAdd_d00df_b12 at hf
  cases hf

set_option maxRecDepth 100000 in
set_option maxHeartbeats 4000000 in
theorem wJx4a65c_rangeCheckForAdd_d00df_b0 (C : mx p s m args meth c yJx4a65c_rangeCheckForAdd_d00df cJx4a65c_rangeCheckForAdd_d00df 2 none A D cy st) {d : Dt} : ∀ (x0 : Nat) (x1 : Int32), fJx4a65c_rangeCheckForAdd_d00df_b0 sh d x0 x1 = some () → ∀ {H : Heap} {locs : List Loc} {ls : Array Slot}, HW A D cy sz sh d H → va_S A s.heap H locs → lv_has ls 2 [(0, .ref x0), (1, .int x1)] → GL p l e s m args below meth c 0 0 A D cy none sz sh d H locs 0 ls [] := by
  have hx := C.1
  have hb := C.2.1
  intro x0 x1 hf H locs ls hw hS hl
  unfold fJx4a65c_rangeCheckForAdd_d00df_b0 at hf
  refine lv_iload_n hx hb dJx4a65c_rangeCheckForAdd_d00df_0 rfl (lv_at hl 1 rfl) ?_
  refine lv_aload_n hx hb dJx4a65c_rangeCheckForAdd_d00df_1 rfl (lv_at hl 0 rfl) ?_
  obtain ⟨v1, hv1, hf⟩ := bd_s hf
  refine gt_34 C hw hv1 kw_45 dJx4a65c_rangeCheckForAdd_d00df_2 ?_
  refine lv_icmp_gt (tgt := 12) hx hb dJx4a65c_rangeCheckForAdd_d00df_5 (by decide) (fun c_2 => ?_) (fun c_2 => ?_)
  · have hf := if_t c_2 hf
    exact wJx4a65c_rangeCheckForAdd_d00df_b12 C  hf hw hS (lv_sub hl [] rfl)
  · have hf := if_f c_2 hf
    refine lv_iload_n hx hb dJx4a65c_rangeCheckForAdd_d00df_8 rfl (lv_at hl 1 rfl) ?_
    refine lv_if_ge (tgt := 25) hx hb dJx4a65c_rangeCheckForAdd_d00df_9 (by decide) (fun c_3 => ?_) (fun c_3 => ?_)
    · have hf := if_t c_3 hf
      cases hf
      exact rt_v C hw hS dJx4a65c_rangeCheckForAdd_d00df_25
    · have hf := if_f c_3 hf
      exact wJx4a65c_rangeCheckForAdd_d00df_b12 C  hf hw hS (lv_sub hl [] rfl)

set_option maxRecDepth 100000 in
set_option maxHeartbeats 4000000 in
theorem tJx4a65c_rangeCheckForAdd_d00df (l : Launch) (A : Nat → Prop) (D : va_G) (cy : Nat → ClassId) (st : Nat → Nat) (sz : Nat) (sh : Sh) (d : Dt) (x0 : Nat) (x1 : Int32) (hf : fJx4a65c_rangeCheckForAdd_d00df sh d x0 x1 = some ()) : Ct l yJx4a65c_rangeCheckForAdd_d00df cJx4a65c_rangeCheckForAdd_d00df 2 none 0 0 0 0 A D cy st [.ref x0, .int x1] sz sh d none sz sh d := ct_of (by decide) (Nat.le_of_ble_eq_true rfl) (fun p e s m args below meth c C hw hS ls hl => wJx4a65c_rangeCheckForAdd_d00df_b0 C x0 x1 hf hw hS hl)
theorem dJx4a65c_add_7a177_0 : decode cJx4a65c_add_7a177 0 = .ok (.aload_n 0, 1) := by decide +kernel
theorem dJx4a65c_add_7a177_1 : decode cJx4a65c_add_7a177 1 = .ok (.iload_n 1, 1) := by decide +kernel
theorem dJx4a65c_add_7a177_2 : decode cJx4a65c_add_7a177 2 = .ok (.invokevirtual 135, 3) := by decide +kernel
theorem dJx4a65c_add_7a177_5 : decode cJx4a65c_add_7a177 5 = .ok (.aload_n 0, 1) := by decide +kernel
theorem dJx4a65c_add_7a177_6 : decode cJx4a65c_add_7a177 6 = .ok (.dup, 1) := by decide +kernel
theorem dJx4a65c_add_7a177_7 : decode cJx4a65c_add_7a177 7 = .ok (.getfield 63, 3) := by decide +kernel
theorem dJx4a65c_add_7a177_10 : decode cJx4a65c_add_7a177 10 = .ok (.iconst 1, 1) := by decide +kernel
theorem dJx4a65c_add_7a177_11 : decode cJx4a65c_add_7a177 11 = .ok (.iadd, 1) := by decide +kernel
theorem dJx4a65c_add_7a177_12 : decode cJx4a65c_add_7a177 12 = .ok (.putfield 63, 3) := by decide +kernel
theorem dJx4a65c_add_7a177_15 : decode cJx4a65c_add_7a177 15 = .ok (.aload_n 0, 1) := by decide +kernel
theorem dJx4a65c_add_7a177_16 : decode cJx4a65c_add_7a177 16 = .ok (.getfield 48, 3) := by decide +kernel
theorem dJx4a65c_add_7a177_19 : decode cJx4a65c_add_7a177 19 = .ok (.dup, 1) := by decide +kernel
theorem dJx4a65c_add_7a177_20 : decode cJx4a65c_add_7a177 20 = .ok (.istore_n 3, 1) := by decide +kernel
theorem dJx4a65c_add_7a177_21 : decode cJx4a65c_add_7a177 21 = .ok (.aload_n 0, 1) := by decide +kernel
theorem dJx4a65c_add_7a177_22 : decode cJx4a65c_add_7a177 22 = .ok (.getfield 9, 3) := by decide +kernel
theorem dJx4a65c_add_7a177_25 : decode cJx4a65c_add_7a177 25 = .ok (.dup, 1) := by decide +kernel
theorem dJx4a65c_add_7a177_26 : decode cJx4a65c_add_7a177 26 = .ok (.astore 4, 2) := by decide +kernel
theorem dJx4a65c_add_7a177_28 : decode cJx4a65c_add_7a177 28 = .ok (.arraylength, 1) := by decide +kernel
theorem dJx4a65c_add_7a177_29 : decode cJx4a65c_add_7a177 29 = .ok (.if_icmp .ne 9, 3) := by decide +kernel
theorem dJx4a65c_add_7a177_32 : decode cJx4a65c_add_7a177 32 = .ok (.aload_n 0, 1) := by decide +kernel
theorem dJx4a65c_add_7a177_33 : decode cJx4a65c_add_7a177 33 = .ok (.invokevirtual 129, 3) := by decide +kernel
theorem dJx4a65c_add_7a177_36 : decode cJx4a65c_add_7a177 36 = .ok (.astore 4, 2) := by decide +kernel
theorem dJx4a65c_add_7a177_38 : decode cJx4a65c_add_7a177 38 = .ok (.aload 4, 2) := by decide +kernel
theorem dJx4a65c_add_7a177_40 : decode cJx4a65c_add_7a177 40 = .ok (.iload_n 1, 1) := by decide +kernel
theorem dJx4a65c_add_7a177_41 : decode cJx4a65c_add_7a177 41 = .ok (.aload 4, 2) := by decide +kernel
theorem dJx4a65c_add_7a177_43 : decode cJx4a65c_add_7a177 43 = .ok (.iload_n 1, 1) := by decide +kernel
theorem dJx4a65c_add_7a177_44 : decode cJx4a65c_add_7a177 44 = .ok (.iconst 1, 1) := by decide +kernel
theorem dJx4a65c_add_7a177_45 : decode cJx4a65c_add_7a177 45 = .ok (.iadd, 1) := by decide +kernel
theorem dJx4a65c_add_7a177_46 : decode cJx4a65c_add_7a177 46 = .ok (.iload_n 3, 1) := by decide +kernel
theorem dJx4a65c_add_7a177_47 : decode cJx4a65c_add_7a177 47 = .ok (.iload_n 1, 1) := by decide +kernel
theorem dJx4a65c_add_7a177_48 : decode cJx4a65c_add_7a177 48 = .ok (.isub, 1) := by decide +kernel
theorem dJx4a65c_add_7a177_49 : decode cJx4a65c_add_7a177 49 = .ok (.invokestatic 112, 3) := by decide +kernel
theorem dJx4a65c_add_7a177_52 : decode cJx4a65c_add_7a177 52 = .ok (.aload 4, 2) := by decide +kernel
theorem dJx4a65c_add_7a177_54 : decode cJx4a65c_add_7a177 54 = .ok (.iload_n 1, 1) := by decide +kernel
theorem dJx4a65c_add_7a177_55 : decode cJx4a65c_add_7a177 55 = .ok (.aload_n 2, 1) := by decide +kernel
theorem dJx4a65c_add_7a177_56 : decode cJx4a65c_add_7a177 56 = .ok (.aastore, 1) := by decide +kernel
theorem dJx4a65c_add_7a177_57 : decode cJx4a65c_add_7a177 57 = .ok (.aload_n 0, 1) := by decide +kernel
theorem dJx4a65c_add_7a177_58 : decode cJx4a65c_add_7a177 58 = .ok (.iload_n 3, 1) := by decide +kernel
theorem dJx4a65c_add_7a177_59 : decode cJx4a65c_add_7a177 59 = .ok (.iconst 1, 1) := by decide +kernel
theorem dJx4a65c_add_7a177_60 : decode cJx4a65c_add_7a177 60 = .ok (.iadd, 1) := by decide +kernel
theorem dJx4a65c_add_7a177_61 : decode cJx4a65c_add_7a177 61 = .ok (.putfield 48, 3) := by decide +kernel
theorem dJx4a65c_add_7a177_64 : decode cJx4a65c_add_7a177 64 = .ok (.return_, 1) := by decide +kernel
theorem cvJx4a65c_add_7a177 : CV yJx4a65c_add_7a177 cJx4a65c_add_7a177 5 none 0 2 := ⟨kw_520, kw_521, kw_4, kw_522, ⟨_, _, rfl⟩, by decide, by decide +kernel, by decide +kernel, by decide +kernel⟩
def fJx4a65c_add_7a177_b38 (em mi : Nat) (x0 : Nat) (x1 : Int32) (x2 : Option Nat) (x3 : Int32) (x4 : Option Nat) (sz : Nat) (ns : Nat) (sh : Sh) (d : Dt) : Option (Wl) := bd x4 fun a1 => bd (cpR sh d a1 x1 a1 (x1 + (1 : Int32)) (x3 - x1)) fun d2 => bd (cst sh 2 x2) fun _ => bd (sR sh d2 26 a1 x1 x2) fun d3 => bd (pI sh d3 1 34 x0 (x3 + (1 : Int32))) fun d4 => some (sz, ns, sh, d4)

def fJx4a65c_add_7a177_b36 (em mi : Nat) (x0 : Nat) (x1 : Int32) (x2 : Option Nat) (x3 : Int32) (t0 : Option Nat) (sz : Nat) (ns : Nat) (sh : Sh) (d : Dt) : Option (Wl) := fJx4a65c_add_7a177_b38 em mi x0 x1 x2 x3 t0 sz ns sh d

def fJx4a65c_add_7a177_b0 (em mi : Nat) (x0 : Nat) (x1 : Int32) (x2 : Option Nat) (sz : Nat) (ns : Nat) (sh : Sh) (d : Dt) : Option (Wl) := bd (kc sh 1 x0) fun _ => bd (fJx4a65c_rangeCheckForAdd_d00df sh d x0 x1) fun _ => bd (gI sh d 1 32 x0) fun v4 => bd (pI sh d 1 32 x0 (v4 + (1 : Int32))) fun d5 => bd (gI sh d5 1 34 x0) fun v6 => bd (gR sh d5 1 33 x0) fun v7 => bd v7 fun a8 => bd (lnE sh em a8) fun v9 => if v6 = v9 then (bw2 (fJx4a65c_grow_d5877 em mi x0 sz ns sh d5) fun r12 szq13 nsq13 shq13 dq13 => fJx4a65c_add_7a177_b36 em mi x0 x1 x2 v6 r12 szq13 nsq13 shq13 dq13) else (fJx4a65c_add_7a177_b38 em mi x0 x1 x2 v6 (some a8) sz ns sh d5)

def fJx4a65c_add_7a177 (em mi : Nat) (x0 : Nat) (x1 : Int32) (x2 : Option Nat) (sz ns : Nat) (sh : Sh) (d : Dt) : Option (Wl) := fJx4a65c_add_7a177_b0 em mi x0 x1 x2 sz ns sh d

set_option maxRecDepth 100000 in
set_option maxHeartbeats 4000000 in
theorem mJx4a65c_add_7a177_b38 (em mi : Nat) {sz9 ns9 : Nat} {sh9 : Sh} {d9 : Dt} : ∀ (x0 : Nat) (x1 : Int32) (x2 : Option Nat) (x3 : Int32) (x4 : Option Nat) (sz : Nat) (ns : Nat) (sh : Sh) (d : Dt), fJx4a65c_add_7a177_b38 em mi x0 x1 x2 x3 x4 sz ns sh d = some (sz9, ns9, sh9, d9) → sz ≤ sz9 ∧ ns ≤ ns9 := by
  intro x0 x1 x2 x3 x4 sz ns sh d hf
  unfold fJx4a65c_add_7a177_b38 at hf
  obtain ⟨a1, ea1, hg⟩ := bd_s hf
  clear hf
  subst ea1
  have hf := hg
  clear hg
  obtain ⟨d2, hd2, hf⟩ := bd_s hf
  obtain ⟨ud3, hud3, hf⟩ := bd_s hf
  obtain ⟨d3, hd3, hf⟩ := bd_s hf
  obtain ⟨d4, hd4, hf⟩ := bd_s hf
  cases hf
  exact ⟨Nat.le_refl _, Nat.le_refl _⟩

set_option maxRecDepth 100000 in
set_option maxHeartbeats 4000000 in
theorem mJx4a65c_add_7a177_b36 (em mi : Nat) {sz9 ns9 : Nat} {sh9 : Sh} {d9 : Dt} : ∀ (x0 : Nat) (x1 : Int32) (x2 : Option Nat) (x3 : Int32) (t0 : Option Nat) (sz : Nat) (ns : Nat) (sh : Sh) (d : Dt), fJx4a65c_add_7a177_b36 em mi x0 x1 x2 x3 t0 sz ns sh d = some (sz9, ns9, sh9, d9) → sz ≤ sz9 ∧ ns ≤ ns9 := by
  intro x0 x1 x2 x3 t0 sz ns sh d hf
  unfold fJx4a65c_add_7a177_b36 at hf
  have hm := mJx4a65c_add_7a177_b38 em mi x0 x1 x2 x3 t0 sz ns sh d hf
  omega

set_option maxRecDepth 100000 in
set_option maxHeartbeats 4000000 in
theorem mJx4a65c_add_7a177_b0 (em mi : Nat) {sz9 ns9 : Nat} {sh9 : Sh} {d9 : Dt} : ∀ (x0 : Nat) (x1 : Int32) (x2 : Option Nat) (sz : Nat) (ns : Nat) (sh : Sh) (d : Dt), fJx4a65c_add_7a177_b0 em mi x0 x1 x2 sz ns sh d = some (sz9, ns9, sh9, d9) → sz ≤ sz9 ∧ ns ≤ ns9 := by
  intro x0 x1 x2 sz ns sh d hf
  unfold fJx4a65c_add_7a177_b0 at hf
  obtain ⟨_, h1, hf⟩ := bd_s hf
  obtain ⟨_, h2, hf⟩ := bd_s hf
  obtain ⟨v4, hv4, hf⟩ := bd_s hf
  obtain ⟨d5, hd5, hf⟩ := bd_s hf
  obtain ⟨v6, hv6, hf⟩ := bd_s hf
  obtain ⟨v7, hv7, hf⟩ := bd_s hf
  obtain ⟨a8, ea8, hg⟩ := bd_s hf
  clear hf
  subst ea8
  have hf := hg
  clear hg
  obtain ⟨v9, hv9, hf⟩ := bd_s hf
  by_cases c_10 : v6 = v9
  · have hf := if_t c_10 hf
    obtain ⟨r12, szq13, nsq13, shq13, dq13, h11, hf⟩ := bw2_s hf
    have hq := gJx4a65c_grow_d5877 em mi x0 sz ns sh d5 h11
    have hm := mJx4a65c_add_7a177_b36 em mi x0 x1 x2 v6 r12 szq13 nsq13 shq13 dq13 hf
    omega
  · have hf := if_f c_10 hf
    have hm := mJx4a65c_add_7a177_b38 em mi x0 x1 x2 v6 (some a8) sz ns sh d5 hf
    omega

theorem gJx4a65c_add_7a177 (em mi : Nat) (x0 : Nat) (x1 : Int32) (x2 : Option Nat) (sz ns : Nat) (sh : Sh) (d : Dt) {sz9 ns9 : Nat} {sh9 : Sh} {d9 : Dt} (hf : fJx4a65c_add_7a177 em mi x0 x1 x2 sz ns sh d = some (sz9, ns9, sh9, d9)) : sz ≤ sz9 ∧ ns ≤ ns9 := mJx4a65c_add_7a177_b0 em mi x0 x1 x2 sz ns sh d hf

set_option maxRecDepth 100000 in
set_option maxHeartbeats 4000000 in
theorem wJx4a65c_add_7a177_b38 (C : mx p s m args meth c yJx4a65c_add_7a177 cJx4a65c_add_7a177 5 none A D cy st) {sz9 ns9 : Nat} {sh9 : Sh} {d9 : Dt} {mc ms : Nat} : ∀ (x0 : Nat) (x1 : Int32) (x2 : Option Nat) (x3 : Int32) (x4 : Option Nat) (sz : Nat) (ns : Nat) (sh : Sh) (d : Dt), fJx4a65c_add_7a177_b38 (st 1) (st 2) x0 x1 x2 x3 x4 sz ns sh d = some (sz9, ns9, sh9, d9) → ∀ {cu su : Nat}, sz9 + cu = sz + mc → ns9 + su = ns + ms → ∀ {H : Heap} {locs : List Loc} {ls : Array Slot}, HW A D cy sz sh d H → va_S A s.heap H locs → lv_has ls 5 [(0, .ref x0), (1, .int x1), (2, va_rf x2), (3, .int x3), (4, va_rf x4)] → GA p l e s m args below meth c 5 117 mc ms A D cy none sz9 sh9 d9 H locs cu su 38 ls [] := by
  have hx := C.1
  have hb := C.2.1
  intro x0 x1 x2 x3 x4 sz ns sh d hf cu su hcm hsm H locs ls hw hS hl
  have hm0 := mJx4a65c_add_7a177_b38 (st 1) (st 2) x0 x1 x2 x3 x4 sz ns sh d hf
  unfold fJx4a65c_add_7a177_b38 at hf
  refine lq_aload hx hb dJx4a65c_add_7a177_38 (lv_at hl 4 rfl) ?_
  refine lv_iload_n hx hb dJx4a65c_add_7a177_40 rfl (lv_at hl 1 rfl) ?_
  refine lq_aload hx hb dJx4a65c_add_7a177_41 (lv_at hl 4 rfl) ?_
  refine lv_iload_n hx hb dJx4a65c_add_7a177_43 rfl (lv_at hl 1 rfl) ?_
  refine lv_iconst (v := 1) hx hb dJx4a65c_add_7a177_44 (by decide) ?_
  refine lv_iadd hx hb dJx4a65c_add_7a177_45 ?_
  refine lv_iload_n hx hb dJx4a65c_add_7a177_46 rfl (lv_at hl 3 rfl) ?_
  refine lv_iload_n hx hb dJx4a65c_add_7a177_47 rfl (lv_at hl 1 rfl) ?_
  refine lv_isub hx hb dJx4a65c_add_7a177_48 ?_
  obtain ⟨a1, ea1, hg⟩ := bd_s hf
  clear hf
  subst ea1
  have hf := hg
  clear hg
  obtain ⟨d2, hd2, hf⟩ := bd_s hf
  refine w_cpR C hw hS hd2 kw_527 kw_385 kw_384 kw_15 hl.1 (Nat.le_of_ble_eq_true rfl) (Nat.le_of_ble_eq_true rfl) dJx4a65c_add_7a177_49 (fun H locs hw hS => ?_)
  refine lq_aload hx hb dJx4a65c_add_7a177_52 (lv_at hl 4 rfl) ?_
  refine lv_iload_n hx hb dJx4a65c_add_7a177_54 rfl (lv_at hl 1 rfl) ?_
  refine lq_aload_n hx hb dJx4a65c_add_7a177_55 rfl (lv_at hl 2 rfl) ?_
  obtain ⟨ud3, hud3, hf⟩ := bd_s hf
  obtain ⟨d3, hd3, hf⟩ := bd_s hf
  refine w_aast (ci := 1) (v := x2) C hw hS 6 rfl (by decide) rfl rfl (by decide) hud3 (fun a b h1 h2 => vb_asgC (C := "ManyHands$Entry") (C.2.2.2.2.2.2.2.1.2.1 _ (by decide +kernel)) a b h1 h2) hd3 dJx4a65c_add_7a177_56 (fun H locs hw hS => ?_)
  refine lv_aload_n hx hb dJx4a65c_add_7a177_57 rfl (lv_at hl 0 rfl) ?_
  refine lv_iload_n hx hb dJx4a65c_add_7a177_58 rfl (lv_at hl 3 rfl) ?_
  refine lv_iconst (v := 1) hx hb dJx4a65c_add_7a177_59 (by decide) ?_
  refine lv_iadd hx hb dJx4a65c_add_7a177_60 ?_
  obtain ⟨d4, hd4, hf⟩ := bd_s hf
  refine pt_34 C hw hS hd4 kw_45 dJx4a65c_add_7a177_61 (fun H locs hw hS => ?_)
  cases hf
  obtain rfl : mc = cu := by omega
  obtain rfl : ms = su := by omega
  exact rt_v C hw hS dJx4a65c_add_7a177_64

set_option maxRecDepth 100000 in
set_option maxHeartbeats 4000000 in
theorem wJx4a65c_add_7a177_b36 (C : mx p s m args meth c yJx4a65c_add_7a177 cJx4a65c_add_7a177 5 none A D cy st) {sz9 ns9 : Nat} {sh9 : Sh} {d9 : Dt} {mc ms : Nat} : ∀ (x0 : Nat) (x1 : Int32) (x2 : Option Nat) (x3 : Int32) (t0 : Option Nat) (sz : Nat) (ns : Nat) (sh : Sh) (d : Dt), fJx4a65c_add_7a177_b36 (st 1) (st 2) x0 x1 x2 x3 t0 sz ns sh d = some (sz9, ns9, sh9, d9) → ∀ {cu su : Nat}, sz9 + cu = sz + mc → ns9 + su = ns + ms → ∀ {H : Heap} {locs : List Loc} {ls : Array Slot}, HW A D cy sz sh d H → va_S A s.heap H locs → lv_has ls 5 [(0, .ref x0), (1, .int x1), (2, va_rf x2), (3, .int x3)] → GA p l e s m args below meth c 5 117 mc ms A D cy none sz9 sh9 d9 H locs cu su 36 ls [va_rf t0] := by
  have hx := C.1
  have hb := C.2.1
  intro x0 x1 x2 x3 t0 sz ns sh d hf cu su hcm hsm H locs ls hw hS hl
  have hm0 := mJx4a65c_add_7a177_b36 (st 1) (st 2) x0 x1 x2 x3 t0 sz ns sh d hf
  unfold fJx4a65c_add_7a177_b36 at hf
  refine lq_astore (lv' := [(4, va_rf t0), (0, .ref x0), (1, .int x1), (2, va_rf x2), (3, .int x3)]) hx hb dJx4a65c_add_7a177_36 hl (by decide) rfl (fun ls hl => ?_)
  exact wJx4a65c_add_7a177_b38 C x0 x1 x2 x3 t0 sz ns sh d hf (by omega) (by omega) hw hS (lv_sub hl [1, 2, 3, 4, 0] rfl)

set_option maxRecDepth 100000 in
set_option maxHeartbeats 4000000 in
theorem wJx4a65c_add_7a177_b0 (C : mx p s m args meth c yJx4a65c_add_7a177 cJx4a65c_add_7a177 5 none A D cy st) {sz9 ns9 : Nat} {sh9 : Sh} {d9 : Dt} {mc ms : Nat} : ∀ (x0 : Nat) (x1 : Int32) (x2 : Option Nat) (sz : Nat) (ns : Nat) (sh : Sh) (d : Dt), fJx4a65c_add_7a177_b0 (st 1) (st 2) x0 x1 x2 sz ns sh d = some (sz9, ns9, sh9, d9) → ∀ {cu su : Nat}, sz9 + cu = sz + mc → ns9 + su = ns + ms → ∀ {H : Heap} {locs : List Loc} {ls : Array Slot}, HW A D cy sz sh d H → va_S A s.heap H locs → lv_has ls 5 [(0, .ref x0), (1, .int x1), (2, va_rf x2)] → GA p l e s m args below meth c 5 117 mc ms A D cy none sz9 sh9 d9 H locs cu su 0 ls [] := by
  have hx := C.1
  have hb := C.2.1
  intro x0 x1 x2 sz ns sh d hf cu su hcm hsm H locs ls hw hS hl
  have hm0 := mJx4a65c_add_7a177_b0 (st 1) (st 2) x0 x1 x2 sz ns sh d hf
  unfold fJx4a65c_add_7a177_b0 at hf
  refine lv_aload_n hx hb dJx4a65c_add_7a177_0 rfl (lv_at hl 0 rfl) ?_
  refine lv_iload_n hx hb dJx4a65c_add_7a177_1 rfl (lv_at hl 1 rfl) ?_
  obtain ⟨_, h1, hf⟩ := bd_s hf
  obtain ⟨_, h2, hf⟩ := bd_s hf
  refine cl_V0 C hw hS (tJx4a65c_rangeCheckForAdd_d00df l A D cy st sz sh d x0 x1 h2) cvJx4a65c_rangeCheckForAdd_d00df kw_523 (kc_k h1) ⟨(Nat.le_of_ble_eq_true rfl), (Nat.le_of_ble_eq_true rfl)⟩ hl.1 rfl (Nat.le_of_ble_eq_true rfl) dJx4a65c_add_7a177_2 ⟨by show _ ≤ mc; omega, by show _ ≤ ms; omega⟩ (fun H locs hw hS => ?_)
  refine lv_aload_n hx hb dJx4a65c_add_7a177_5 rfl (lv_at hl 0 rfl) ?_
  refine lv_dup hx hb dJx4a65c_add_7a177_6 rfl ?_
  obtain ⟨v4, hv4, hf⟩ := bd_s hf
  refine gt_32 C hw hv4 kw_47 dJx4a65c_add_7a177_7 ?_
  refine lv_iconst (v := 1) hx hb dJx4a65c_add_7a177_10 (by decide) ?_
  refine lv_iadd hx hb dJx4a65c_add_7a177_11 ?_
  obtain ⟨d5, hd5, hf⟩ := bd_s hf
  refine pt_32 C hw hS hd5 kw_47 dJx4a65c_add_7a177_12 (fun H locs hw hS => ?_)
  refine lv_aload_n hx hb dJx4a65c_add_7a177_15 rfl (lv_at hl 0 rfl) ?_
  obtain ⟨v6, hv6, hf⟩ := bd_s hf
  refine gt_34 C hw hv6 kw_45 dJx4a65c_add_7a177_16 ?_
  refine lv_dup hx hb dJx4a65c_add_7a177_19 rfl ?_
  refine lv_istore_n (i := 3) (lv' := [(3, .int v6), (0, .ref x0), (1, .int x1), (2, va_rf x2)]) hx hb dJx4a65c_add_7a177_20 rfl hl (by decide) (by simp [va_rf_c, cat_i, cat_l, cat_r]) (fun ls hl => ?_)
  refine lv_aload_n hx hb dJx4a65c_add_7a177_21 rfl (lv_at hl 1 rfl) ?_
  obtain ⟨v7, hv7, hf⟩ := bd_s hf
  refine gt_33 C hw hv7 kw_44 dJx4a65c_add_7a177_22 ?_
  refine lv_dup hx hb dJx4a65c_add_7a177_25 (va_rf_c _) ?_
  refine lq_astore (lv' := [(4, va_rf v7), (3, .int v6), (0, .ref x0), (1, .int x1), (2, va_rf x2)]) hx hb dJx4a65c_add_7a177_26 hl (by decide) rfl (fun ls hl => ?_)
  obtain ⟨a8, ea8, hg⟩ := bd_s hf
  clear hf
  subst ea8
  have hf := hg
  clear hg
  obtain ⟨v9, hv9, hf⟩ := bd_s hf
  refine w_lnE C hw hS hv9 dJx4a65c_add_7a177_28 ?_
  refine lv_icmp_ne (tgt := 38) hx hb dJx4a65c_add_7a177_29 (by decide) (fun c_10 => ?_) (fun c_10 => ?_)
  · have hf := if_f c_10 hf
    exact wJx4a65c_add_7a177_b38 C x0 x1 x2 v6 (some a8) sz ns sh d5 hf (by omega) (by omega) hw hS (lv_sub hl [2, 3, 4, 1, 0] rfl)
  · have hf := if_t c_10 hf
    refine lv_aload_n hx hb dJx4a65c_add_7a177_32 rfl (lv_at hl 2 rfl) ?_
    obtain ⟨r12, szq13, nsq13, shq13, dq13, h11, hf⟩ := bw2_s hf
    have hm := mJx4a65c_add_7a177_b36 (st 1) (st 2) x0 x1 x2 v6 r12 szq13 nsq13 shq13 dq13 hf
    have hq := gJx4a65c_grow_d5877 (st 1) (st 2) x0 sz ns sh d5 h11
    refine cl_V C hw hS (tJx4a65c_grow_d5877 l A D cy st x0 sz ns sh d5 h11) cvJx4a65c_grow_d5877 kw_340 (gR_s hv7).1 ⟨(Nat.le_of_ble_eq_true rfl), (Nat.le_of_ble_eq_true rfl)⟩ hl.1 rfl (Nat.le_of_ble_eq_true rfl) dJx4a65c_add_7a177_33 ⟨by show _ ≤ mc; omega, by show _ ≤ ms; omega⟩ (fun H locs hw hS => ?_)
    exact wJx4a65c_add_7a177_b36 C x0 x1 x2 v6 r12 szq13 nsq13 shq13 dq13 hf (by omega) (by omega) hw hS (lv_sub hl [2, 3, 4, 1] rfl)

set_option maxRecDepth 100000 in
set_option maxHeartbeats 4000000 in
theorem tJx4a65c_add_7a177 (l : Launch) (A : Nat → Prop) (D : va_G) (cy : Nat → ClassId) (st : Nat → Nat) (x0 : Nat) (x1 : Int32) (x2 : Option Nat) (sz ns : Nat) (sh : Sh) (d : Dt) {sz9 ns9 : Nat} {sh9 : Sh} {d9 : Dt} (hf : fJx4a65c_add_7a177 (st 1) (st 2) x0 x1 x2 sz ns sh d = some (sz9, ns9, sh9, d9)) : Ct l yJx4a65c_add_7a177 cJx4a65c_add_7a177 5 none 5 117 (sz9 - sz) (ns9 - ns) A D cy st [.ref x0, .int x1, va_rf x2] sz sh d none sz9 sh9 d9 := by
  have hm := gJx4a65c_add_7a177 (st 1) (st 2) x0 x1 x2 sz ns sh d hf
  exact ct_of (by decide) (by simp [lg_sl, va_rf_c, cat_i, cat_l, cat_r]) (fun p e s m args below meth c C hw hS ls hl => wJx4a65c_add_7a177_b0 C x0 x1 x2 sz ns sh d hf (by omega) (by omega) hw hS (by simpa [lv_args, va_rf_c, cat_i, cat_l, cat_r] using hl))
theorem dJx4a65c_fastRemove_b59b0_0 : decode cJx4a65c_fastRemove_b59b0 0 = .ok (.aload_n 0, 1) := by decide +kernel
theorem dJx4a65c_fastRemove_b59b0_1 : decode cJx4a65c_fastRemove_b59b0 1 = .ok (.dup, 1) := by decide +kernel
theorem dJx4a65c_fastRemove_b59b0_2 : decode cJx4a65c_fastRemove_b59b0 2 = .ok (.getfield 63, 3) := by decide +kernel
theorem dJx4a65c_fastRemove_b59b0_5 : decode cJx4a65c_fastRemove_b59b0 5 = .ok (.iconst 1, 1) := by decide +kernel
theorem dJx4a65c_fastRemove_b59b0_6 : decode cJx4a65c_fastRemove_b59b0 6 = .ok (.iadd, 1) := by decide +kernel
theorem dJx4a65c_fastRemove_b59b0_7 : decode cJx4a65c_fastRemove_b59b0 7 = .ok (.putfield 63, 3) := by decide +kernel
theorem dJx4a65c_fastRemove_b59b0_10 : decode cJx4a65c_fastRemove_b59b0 10 = .ok (.aload_n 0, 1) := by decide +kernel
theorem dJx4a65c_fastRemove_b59b0_11 : decode cJx4a65c_fastRemove_b59b0 11 = .ok (.getfield 48, 3) := by decide +kernel
theorem dJx4a65c_fastRemove_b59b0_14 : decode cJx4a65c_fastRemove_b59b0 14 = .ok (.iconst 1, 1) := by decide +kernel
theorem dJx4a65c_fastRemove_b59b0_15 : decode cJx4a65c_fastRemove_b59b0 15 = .ok (.isub, 1) := by decide +kernel
theorem dJx4a65c_fastRemove_b59b0_16 : decode cJx4a65c_fastRemove_b59b0 16 = .ok (.dup, 1) := by decide +kernel
theorem dJx4a65c_fastRemove_b59b0_17 : decode cJx4a65c_fastRemove_b59b0 17 = .ok (.istore_n 3, 1) := by decide +kernel
theorem dJx4a65c_fastRemove_b59b0_18 : decode cJx4a65c_fastRemove_b59b0 18 = .ok (.iload_n 2, 1) := by decide +kernel
theorem dJx4a65c_fastRemove_b59b0_19 : decode cJx4a65c_fastRemove_b59b0 19 = .ok (.if_icmp .le 15, 3) := by decide +kernel
theorem dJx4a65c_fastRemove_b59b0_22 : decode cJx4a65c_fastRemove_b59b0 22 = .ok (.aload_n 1, 1) := by decide +kernel
theorem dJx4a65c_fastRemove_b59b0_23 : decode cJx4a65c_fastRemove_b59b0 23 = .ok (.iload_n 2, 1) := by decide +kernel
theorem dJx4a65c_fastRemove_b59b0_24 : decode cJx4a65c_fastRemove_b59b0 24 = .ok (.iconst 1, 1) := by decide +kernel
theorem dJx4a65c_fastRemove_b59b0_25 : decode cJx4a65c_fastRemove_b59b0 25 = .ok (.iadd, 1) := by decide +kernel
theorem dJx4a65c_fastRemove_b59b0_26 : decode cJx4a65c_fastRemove_b59b0 26 = .ok (.aload_n 1, 1) := by decide +kernel
theorem dJx4a65c_fastRemove_b59b0_27 : decode cJx4a65c_fastRemove_b59b0 27 = .ok (.iload_n 2, 1) := by decide +kernel
theorem dJx4a65c_fastRemove_b59b0_28 : decode cJx4a65c_fastRemove_b59b0 28 = .ok (.iload_n 3, 1) := by decide +kernel
theorem dJx4a65c_fastRemove_b59b0_29 : decode cJx4a65c_fastRemove_b59b0 29 = .ok (.iload_n 2, 1) := by decide +kernel
theorem dJx4a65c_fastRemove_b59b0_30 : decode cJx4a65c_fastRemove_b59b0 30 = .ok (.isub, 1) := by decide +kernel
theorem dJx4a65c_fastRemove_b59b0_31 : decode cJx4a65c_fastRemove_b59b0 31 = .ok (.invokestatic 112, 3) := by decide +kernel
theorem dJx4a65c_fastRemove_b59b0_34 : decode cJx4a65c_fastRemove_b59b0 34 = .ok (.aload_n 1, 1) := by decide +kernel
theorem dJx4a65c_fastRemove_b59b0_35 : decode cJx4a65c_fastRemove_b59b0 35 = .ok (.aload_n 0, 1) := by decide +kernel
theorem dJx4a65c_fastRemove_b59b0_36 : decode cJx4a65c_fastRemove_b59b0 36 = .ok (.iload_n 3, 1) := by decide +kernel
theorem dJx4a65c_fastRemove_b59b0_37 : decode cJx4a65c_fastRemove_b59b0 37 = .ok (.dup_x1, 1) := by decide +kernel
theorem dJx4a65c_fastRemove_b59b0_38 : decode cJx4a65c_fastRemove_b59b0 38 = .ok (.putfield 48, 3) := by decide +kernel
theorem dJx4a65c_fastRemove_b59b0_41 : decode cJx4a65c_fastRemove_b59b0 41 = .ok (.aconst_null, 1) := by decide +kernel
theorem dJx4a65c_fastRemove_b59b0_42 : decode cJx4a65c_fastRemove_b59b0 42 = .ok (.aastore, 1) := by decide +kernel
theorem dJx4a65c_fastRemove_b59b0_43 : decode cJx4a65c_fastRemove_b59b0 43 = .ok (.return_, 1) := by decide +kernel
theorem cvJx4a65c_fastRemove_b59b0 : CV yJx4a65c_fastRemove_b59b0 cJx4a65c_fastRemove_b59b0 4 none 0 2 := ⟨kw_543, ks_15, kw_4, kw_544, ⟨_, _, rfl⟩, by decide, by decide +kernel, by decide +kernel, by decide +kernel⟩
def fJx4a65c_fastRemove_b59b0_b34 (sh : Sh) (x0 : Nat) (x1 : Option Nat) (x3 : Int32) (d : Dt) : Option (Dt) := bd (pI sh d 1 34 x0 x3) fun d1 => bd x1 fun a2 => bd (cst sh 2 none) fun _ => bd (sR sh d1 26 a2 x3 none) fun d3 => some (d3)

def fJx4a65c_fastRemove_b59b0_b0 (sh : Sh) (x0 : Nat) (x1 : Option Nat) (x2 : Int32) (d : Dt) : Option (Dt) := bd (gI sh d 1 32 x0) fun v1 => bd (pI sh d 1 32 x0 (v1 + (1 : Int32))) fun d2 => bd (gI sh d2 1 34 x0) fun v3 => if (v3 - (1 : Int32)) ≤ x2 then (fJx4a65c_fastRemove_b59b0_b34 sh x0 x1 (v3 - (1 : Int32)) d2) else (bd x1 fun a5 => bd (cpR sh d2 a5 (x2 + (1 : Int32)) a5 x2 ((v3 - (1 : Int32)) - x2)) fun d6 => fJx4a65c_fastRemove_b59b0_b34 sh x0 (some a5) (v3 - (1 : Int32)) d6)

def fJx4a65c_fastRemove_b59b0 (sh : Sh) (d : Dt) (x0 : Nat) (x1 : Option Nat) (x2 : Int32) : Option (Dt) := fJx4a65c_fastRemove_b59b0_b0 sh x0 x1 x2 d

set_option maxRecDepth 100000 in
set_option maxHeartbeats 4000000 in
theorem wJx4a65c_fastRemove_b59b0_b34 (C : mx p s m args meth c yJx4a65c_fastRemove_b59b0 cJx4a65c_fastRemove_b59b0 4 none A D cy st) {d9 : Dt} : ∀ (x0 : Nat) (x1 : Option Nat) (x3 : Int32) (d : Dt), fJx4a65c_fastRemove_b59b0_b34 sh x0 x1 x3 d = some d9 → ∀ {H : Heap} {locs : List Loc} {ls : Array Slot}, HW A D cy sz sh d H → va_S A s.heap H locs → lv_has ls 4 [(0, .ref x0), (1, va_rf x1), (3, .int x3)] → GL p l e s m args below meth c 1 30 A D cy none sz sh d9 H locs 34 ls [] := by
  have hx := C.1
  have hb := C.2.1
  intro x0 x1 x3 d hf H locs ls hw hS hl
  unfold fJx4a65c_fastRemove_b59b0_b34 at hf
  refine lq_aload_n hx hb dJx4a65c_fastRemove_b59b0_34 rfl (lv_at hl 1 rfl) ?_
  refine lv_aload_n hx hb dJx4a65c_fastRemove_b59b0_35 rfl (lv_at hl 0 rfl) ?_
  refine lv_iload_n hx hb dJx4a65c_fastRemove_b59b0_36 rfl (lv_at hl 2 rfl) ?_
  refine lv_dup_x1 hx hb dJx4a65c_fastRemove_b59b0_37 rfl rfl ?_
  obtain ⟨d1, hd1, hf⟩ := bd_s hf
  refine pt_34 C hw hS hd1 kw_45 dJx4a65c_fastRemove_b59b0_38 (fun H locs hw hS => ?_)
  refine lv_null hx hb dJx4a65c_fastRemove_b59b0_41 ?_
  obtain ⟨a2, ea2, hg⟩ := bd_s hf
  clear hf
  subst ea2
  have hf := hg
  clear hg
  obtain ⟨ud3, hud3, hf⟩ := bd_s hf
  obtain ⟨d3, hd3, hf⟩ := bd_s hf
  refine w_aast (ci := 1) (v := none) C hw hS 6 rfl (by decide) rfl rfl (by decide) hud3 (fun a b h1 h2 => vb_asgC (C := "ManyHands$Entry") (C.2.2.2.2.2.2.2.1.2.1 _ (by decide +kernel)) a b h1 h2) hd3 dJx4a65c_fastRemove_b59b0_42 (fun H locs hw hS => ?_)
  cases hf
  exact rt_v C hw hS dJx4a65c_fastRemove_b59b0_43

set_option maxRecDepth 100000 in
set_option maxHeartbeats 4000000 in
theorem wJx4a65c_fastRemove_b59b0_b0 (C : mx p s m args meth c yJx4a65c_fastRemove_b59b0 cJx4a65c_fastRemove_b59b0 4 none A D cy st) {d9 : Dt} : ∀ (x0 : Nat) (x1 : Option Nat) (x2 : Int32) (d : Dt), fJx4a65c_fastRemove_b59b0_b0 sh x0 x1 x2 d = some d9 → ∀ {H : Heap} {locs : List Loc} {ls : Array Slot}, HW A D cy sz sh d H → va_S A s.heap H locs → lv_has ls 4 [(0, .ref x0), (1, va_rf x1), (2, .int x2)] → GL p l e s m args below meth c 1 30 A D cy none sz sh d9 H locs 0 ls [] := by
  have hx := C.1
  have hb := C.2.1
  intro x0 x1 x2 d hf H locs ls hw hS hl
  unfold fJx4a65c_fastRemove_b59b0_b0 at hf
  refine lv_aload_n hx hb dJx4a65c_fastRemove_b59b0_0 rfl (lv_at hl 0 rfl) ?_
  refine lv_dup hx hb dJx4a65c_fastRemove_b59b0_1 rfl ?_
  obtain ⟨v1, hv1, hf⟩ := bd_s hf
  refine gt_32 C hw hv1 kw_47 dJx4a65c_fastRemove_b59b0_2 ?_
  refine lv_iconst (v := 1) hx hb dJx4a65c_fastRemove_b59b0_5 (by decide) ?_
  refine lv_iadd hx hb dJx4a65c_fastRemove_b59b0_6 ?_
  obtain ⟨d2, hd2, hf⟩ := bd_s hf
  refine pt_32 C hw hS hd2 kw_47 dJx4a65c_fastRemove_b59b0_7 (fun H locs hw hS => ?_)
  refine lv_aload_n hx hb dJx4a65c_fastRemove_b59b0_10 rfl (lv_at hl 0 rfl) ?_
  obtain ⟨v3, hv3, hf⟩ := bd_s hf
  refine gt_34 C hw hv3 kw_45 dJx4a65c_fastRemove_b59b0_11 ?_
  refine lv_iconst (v := 1) hx hb dJx4a65c_fastRemove_b59b0_14 (by decide) ?_
  refine lv_isub hx hb dJx4a65c_fastRemove_b59b0_15 ?_
  refine lv_dup hx hb dJx4a65c_fastRemove_b59b0_16 rfl ?_
  refine lv_istore_n (lv' := [(3, .int (v3 - (1 : Int32))), (0, .ref x0), (1, va_rf x1), (2, .int x2)]) hx hb dJx4a65c_fastRemove_b59b0_17 rfl hl (by decide) rfl (fun ls hl => ?_)
  refine lv_iload_n hx hb dJx4a65c_fastRemove_b59b0_18 rfl (lv_at hl 3 rfl) ?_
  refine lv_icmp_le (tgt := 34) hx hb dJx4a65c_fastRemove_b59b0_19 (by decide) (fun c_4 => ?_) (fun c_4 => ?_)
  · have hf := if_t c_4 hf
    exact wJx4a65c_fastRemove_b59b0_b34 C x0 x1 (v3 - (1 : Int32)) d2 hf hw hS (lv_sub hl [1, 2, 0] rfl)
  · have hf := if_f c_4 hf
    refine lq_aload_n hx hb dJx4a65c_fastRemove_b59b0_22 rfl (lv_at hl 2 rfl) ?_
    refine lv_iload_n hx hb dJx4a65c_fastRemove_b59b0_23 rfl (lv_at hl 3 rfl) ?_
    refine lv_iconst (v := 1) hx hb dJx4a65c_fastRemove_b59b0_24 (by decide) ?_
    refine lv_iadd hx hb dJx4a65c_fastRemove_b59b0_25 ?_
    refine lq_aload_n hx hb dJx4a65c_fastRemove_b59b0_26 rfl (lv_at hl 2 rfl) ?_
    refine lv_iload_n hx hb dJx4a65c_fastRemove_b59b0_27 rfl (lv_at hl 3 rfl) ?_
    refine lv_iload_n hx hb dJx4a65c_fastRemove_b59b0_28 rfl (lv_at hl 0 rfl) ?_
    refine lv_iload_n hx hb dJx4a65c_fastRemove_b59b0_29 rfl (lv_at hl 3 rfl) ?_
    refine lv_isub hx hb dJx4a65c_fastRemove_b59b0_30 ?_
    obtain ⟨a5, ea5, hg⟩ := bd_s hf
    clear hf
    subst ea5
    have hf := hg
    clear hg
    obtain ⟨d6, hd6, hf⟩ := bd_s hf
    refine w_cpR C hw hS hd6 kw_527 kw_385 kw_384 kw_15 hl.1 (Nat.le_of_ble_eq_true rfl) (Nat.le_of_ble_eq_true rfl) dJx4a65c_fastRemove_b59b0_31 (fun H locs hw hS => ?_)
    exact wJx4a65c_fastRemove_b59b0_b34 C x0 (some a5) (v3 - (1 : Int32)) d6 hf hw hS (lv_sub hl [1, 2, 0] rfl)

set_option maxRecDepth 100000 in
set_option maxHeartbeats 4000000 in
theorem tJx4a65c_fastRemove_b59b0 (l : Launch) (A : Nat → Prop) (D : va_G) (cy : Nat → ClassId) (st : Nat → Nat) (sz : Nat) (sh : Sh) (d : Dt) (x0 : Nat) (x1 : Option Nat) (x2 : Int32) {d9 : Dt} (hf : fJx4a65c_fastRemove_b59b0 sh d x0 x1 x2 = some d9) : Ct l yJx4a65c_fastRemove_b59b0 cJx4a65c_fastRemove_b59b0 4 none 1 30 0 0 A D cy st [.ref x0, va_rf x1, .int x2] sz sh d none sz sh d9 := ct_of (by decide) (by simp [lg_sl, va_rf_c, cat_i, cat_l, cat_r]) (fun p e s m args below meth c C hw hS ls hl => wJx4a65c_fastRemove_b59b0_b0 C x0 x1 x2 d hf hw hS (by simpa [lv_args, va_rf_c, cat_i, cat_l, cat_r] using hl))
theorem dJx4a65c_remove_915e3_0 : decode cJx4a65c_remove_915e3 0 = .ok (.iload_n 1, 1) := by decide +kernel
theorem dJx4a65c_remove_915e3_1 : decode cJx4a65c_remove_915e3 1 = .ok (.aload_n 0, 1) := by decide +kernel
theorem dJx4a65c_remove_915e3_2 : decode cJx4a65c_remove_915e3 2 = .ok (.getfield 48, 3) := by decide +kernel
theorem dJx4a65c_remove_915e3_5 : decode cJx4a65c_remove_915e3 5 = .ok (.invokestatic 118, 3) := by decide +kernel
theorem dJx4a65c_remove_915e3_8 : decode cJx4a65c_remove_915e3 8 = .ok (.pop, 1) := by decide +kernel
theorem dJx4a65c_remove_915e3_9 : decode cJx4a65c_remove_915e3 9 = .ok (.aload_n 0, 1) := by decide +kernel
theorem dJx4a65c_remove_915e3_10 : decode cJx4a65c_remove_915e3 10 = .ok (.getfield 9, 3) := by decide +kernel
theorem dJx4a65c_remove_915e3_13 : decode cJx4a65c_remove_915e3 13 = .ok (.astore_n 2, 1) := by decide +kernel
theorem dJx4a65c_remove_915e3_14 : decode cJx4a65c_remove_915e3 14 = .ok (.aload_n 2, 1) := by decide +kernel
theorem dJx4a65c_remove_915e3_15 : decode cJx4a65c_remove_915e3 15 = .ok (.iload_n 1, 1) := by decide +kernel
theorem dJx4a65c_remove_915e3_16 : decode cJx4a65c_remove_915e3 16 = .ok (.aaload, 1) := by decide +kernel
theorem dJx4a65c_remove_915e3_17 : decode cJx4a65c_remove_915e3 17 = .ok (.astore_n 3, 1) := by decide +kernel
theorem dJx4a65c_remove_915e3_18 : decode cJx4a65c_remove_915e3 18 = .ok (.aload_n 0, 1) := by decide +kernel
theorem dJx4a65c_remove_915e3_19 : decode cJx4a65c_remove_915e3 19 = .ok (.aload_n 2, 1) := by decide +kernel
theorem dJx4a65c_remove_915e3_20 : decode cJx4a65c_remove_915e3 20 = .ok (.iload_n 1, 1) := by decide +kernel
theorem dJx4a65c_remove_915e3_21 : decode cJx4a65c_remove_915e3 21 = .ok (.invokevirtual 144, 3) := by decide +kernel
theorem dJx4a65c_remove_915e3_24 : decode cJx4a65c_remove_915e3 24 = .ok (.aload_n 3, 1) := by decide +kernel
theorem dJx4a65c_remove_915e3_25 : decode cJx4a65c_remove_915e3 25 = .ok (.areturn, 1) := by decide +kernel
theorem cvJx4a65c_remove_915e3 : CV yJx4a65c_remove_915e3 cJx4a65c_remove_915e3 4 (some (.object "java/lang/Object")) 0 1 := ⟨kw_538, kw_539, kw_4, kw_540, ⟨_, _, rfl⟩, by decide, by decide +kernel, by decide +kernel, by decide +kernel⟩
def fJx4a65c_remove_915e3_b0 (sh : Sh) (x0 : Nat) (x1 : Int32) (d : Dt) : Option (Option Nat × Dt) := bd (gI sh d 1 34 x0) fun v1 => bd (fJ15_checkIndex_7cf53 sh d x1 v1) fun r3 => bd (gR sh d 1 33 x0) fun v4 => bd v4 fun a5 => bd (aR sh d 26 a5 x1) fun v6 => bd (fJx4a65c_fastRemove_b59b0 sh d x0 (some a5) x1) fun d9 => some (v6, d9)

def fJx4a65c_remove_915e3 (sh : Sh) (d : Dt) (x0 : Nat) (x1 : Int32) : Option (Option Nat × Dt) := fJx4a65c_remove_915e3_b0 sh x0 x1 d

set_option maxRecDepth 100000 in
set_option maxHeartbeats 4000000 in
theorem wJx4a65c_remove_915e3_b0 (C : mx p s m args meth c yJx4a65c_remove_915e3 cJx4a65c_remove_915e3 4 (some (.object "java/lang/Object")) A D cy st) {r : Option Nat} {d9 : Dt} : ∀ (x0 : Nat) (x1 : Int32) (d : Dt), fJx4a65c_remove_915e3_b0 sh x0 x1 d = some (r, d9) → ∀ {H : Heap} {locs : List Loc} {ls : Array Slot}, HW A D cy sz sh d H → va_S A s.heap H locs → lv_has ls 4 [(0, .ref x0), (1, .int x1)] → GL p l e s m args below meth c 2 53 A D cy (some (va_rf r)) sz sh d9 H locs 0 ls [] := by
  have hx := C.1
  have hb := C.2.1
  intro x0 x1 d hf H locs ls hw hS hl
  unfold fJx4a65c_remove_915e3_b0 at hf
  refine lv_iload_n hx hb dJx4a65c_remove_915e3_0 rfl (lv_at hl 1 rfl) ?_
  refine lv_aload_n hx hb dJx4a65c_remove_915e3_1 rfl (lv_at hl 0 rfl) ?_
  obtain ⟨v1, hv1, hf⟩ := bd_s hf
  refine gt_34 C hw hv1 kw_45 dJx4a65c_remove_915e3_2 ?_
  obtain ⟨r3, h2, hf⟩ := bd_s hf
  refine cl_S0 C hw hS (tJ15_checkIndex_7cf53 l A D cy st sz sh d x1 v1 h2) csJ15_checkIndex_7cf53 kw_474 ⟨(Nat.le_of_ble_eq_true rfl), (Nat.le_of_ble_eq_true rfl)⟩ hl.1 rfl (Nat.le_of_ble_eq_true rfl) dJx4a65c_remove_915e3_5 ⟨Nat.zero_le _, Nat.zero_le _⟩ (fun H locs hw hS => ?_)
  refine lv_pop hx hb dJx4a65c_remove_915e3_8 rfl ?_
  refine lv_aload_n hx hb dJx4a65c_remove_915e3_9 rfl (lv_at hl 0 rfl) ?_
  obtain ⟨v4, hv4, hf⟩ := bd_s hf
  refine gt_33 C hw hv4 kw_44 dJx4a65c_remove_915e3_10 ?_
  refine lq_astore_n (lv' := [(2, va_rf v4), (0, .ref x0), (1, .int x1)]) hx hb dJx4a65c_remove_915e3_13 rfl hl (by decide) rfl (fun ls hl => ?_)
  refine lq_aload_n hx hb dJx4a65c_remove_915e3_14 rfl (lv_at hl 0 rfl) ?_
  refine lv_iload_n hx hb dJx4a65c_remove_915e3_15 rfl (lv_at hl 2 rfl) ?_
  obtain ⟨a5, ea5, hg⟩ := bd_s hf
  clear hf
  subst ea5
  have hf := hg
  clear hg
  obtain ⟨v6, hv6, hf⟩ := bd_s hf
  refine w_aald C hw 6 rfl (by decide) rfl hv6 dJx4a65c_remove_915e3_16 ?_
  refine lq_astore_n (i := 3) (lv' := [(3, va_rf v6), (2, va_rf (some a5)), (0, .ref x0), (1, .int x1)]) hx hb dJx4a65c_remove_915e3_17 rfl hl (by decide) (by simp [va_rf_c, cat_i, cat_l, cat_r]) (fun ls hl => ?_)
  refine lv_aload_n hx hb dJx4a65c_remove_915e3_18 rfl (lv_at hl 2 rfl) ?_
  refine lq_aload_n hx hb dJx4a65c_remove_915e3_19 rfl (lv_at hl 1 rfl) ?_
  refine lv_iload_n hx hb dJx4a65c_remove_915e3_20 rfl (lv_at hl 3 rfl) ?_
  obtain ⟨d9, h7, hf⟩ := bd_s hf
  refine cl_V0 C hw hS (tJx4a65c_fastRemove_b59b0 l A D cy st sz sh d x0 (some a5) x1 h7) cvJx4a65c_fastRemove_b59b0 kw_541 (gR_s hv4).1 ⟨(Nat.le_of_ble_eq_true rfl), (Nat.le_of_ble_eq_true rfl)⟩ hl.1 rfl (Nat.le_of_ble_eq_true rfl) dJx4a65c_remove_915e3_21 ⟨Nat.zero_le _, Nat.zero_le _⟩ (fun H locs hw hS => ?_)
  refine lq_aload_n hx hb dJx4a65c_remove_915e3_24 rfl (lv_at hl 0 rfl) ?_
  cases hf
  exact rt_a C hw hS dJx4a65c_remove_915e3_25

set_option maxRecDepth 100000 in
set_option maxHeartbeats 4000000 in
theorem tJx4a65c_remove_915e3 (l : Launch) (A : Nat → Prop) (D : va_G) (cy : Nat → ClassId) (st : Nat → Nat) (sz : Nat) (sh : Sh) (d : Dt) (x0 : Nat) (x1 : Int32) {r : Option Nat} {d9 : Dt} (hf : fJx4a65c_remove_915e3 sh d x0 x1 = some (r, d9)) : Ct l yJx4a65c_remove_915e3 cJx4a65c_remove_915e3 4 (some (.object "java/lang/Object")) 2 53 0 0 A D cy st [.ref x0, .int x1] sz sh d (some (va_rf r)) sz sh d9 := ct_of (by decide) (Nat.le_of_ble_eq_true rfl) (fun p e s m args below meth c C hw hS ls hl => wJx4a65c_remove_915e3_b0 C x0 x1 d hf hw hS hl)
theorem dJx4a65c_clear_da8c8_0 : decode cJx4a65c_clear_da8c8 0 = .ok (.aload_n 0, 1) := by decide +kernel
theorem dJx4a65c_clear_da8c8_1 : decode cJx4a65c_clear_da8c8 1 = .ok (.dup, 1) := by decide +kernel
theorem dJx4a65c_clear_da8c8_2 : decode cJx4a65c_clear_da8c8 2 = .ok (.getfield 63, 3) := by decide +kernel
theorem dJx4a65c_clear_da8c8_5 : decode cJx4a65c_clear_da8c8 5 = .ok (.iconst 1, 1) := by decide +kernel
theorem dJx4a65c_clear_da8c8_6 : decode cJx4a65c_clear_da8c8 6 = .ok (.iadd, 1) := by decide +kernel
theorem dJx4a65c_clear_da8c8_7 : decode cJx4a65c_clear_da8c8 7 = .ok (.putfield 63, 3) := by decide +kernel
theorem dJx4a65c_clear_da8c8_10 : decode cJx4a65c_clear_da8c8 10 = .ok (.aload_n 0, 1) := by decide +kernel
theorem dJx4a65c_clear_da8c8_11 : decode cJx4a65c_clear_da8c8 11 = .ok (.getfield 9, 3) := by decide +kernel
theorem dJx4a65c_clear_da8c8_14 : decode cJx4a65c_clear_da8c8 14 = .ok (.astore_n 1, 1) := by decide +kernel
theorem dJx4a65c_clear_da8c8_15 : decode cJx4a65c_clear_da8c8 15 = .ok (.aload_n 0, 1) := by decide +kernel
theorem dJx4a65c_clear_da8c8_16 : decode cJx4a65c_clear_da8c8 16 = .ok (.getfield 48, 3) := by decide +kernel
theorem dJx4a65c_clear_da8c8_19 : decode cJx4a65c_clear_da8c8 19 = .ok (.istore_n 2, 1) := by decide +kernel
theorem dJx4a65c_clear_da8c8_20 : decode cJx4a65c_clear_da8c8 20 = .ok (.aload_n 0, 1) := by decide +kernel
theorem dJx4a65c_clear_da8c8_21 : decode cJx4a65c_clear_da8c8 21 = .ok (.iconst 0, 1) := by decide +kernel
theorem dJx4a65c_clear_da8c8_22 : decode cJx4a65c_clear_da8c8 22 = .ok (.dup_x1, 1) := by decide +kernel
theorem dJx4a65c_clear_da8c8_23 : decode cJx4a65c_clear_da8c8 23 = .ok (.putfield 48, 3) := by decide +kernel
theorem dJx4a65c_clear_da8c8_26 : decode cJx4a65c_clear_da8c8 26 = .ok (.istore_n 3, 1) := by decide +kernel
theorem dJx4a65c_clear_da8c8_27 : decode cJx4a65c_clear_da8c8 27 = .ok (.iload_n 3, 1) := by decide +kernel
theorem dJx4a65c_clear_da8c8_28 : decode cJx4a65c_clear_da8c8 28 = .ok (.iload_n 2, 1) := by decide +kernel
theorem dJx4a65c_clear_da8c8_29 : decode cJx4a65c_clear_da8c8 29 = .ok (.if_icmp .ge 13, 3) := by decide +kernel
theorem dJx4a65c_clear_da8c8_32 : decode cJx4a65c_clear_da8c8 32 = .ok (.aload_n 1, 1) := by decide +kernel
theorem dJx4a65c_clear_da8c8_33 : decode cJx4a65c_clear_da8c8 33 = .ok (.iload_n 3, 1) := by decide +kernel
theorem dJx4a65c_clear_da8c8_34 : decode cJx4a65c_clear_da8c8 34 = .ok (.aconst_null, 1) := by decide +kernel
theorem dJx4a65c_clear_da8c8_35 : decode cJx4a65c_clear_da8c8 35 = .ok (.aastore, 1) := by decide +kernel
theorem dJx4a65c_clear_da8c8_36 : decode cJx4a65c_clear_da8c8 36 = .ok (.iinc 3 1, 3) := by decide +kernel
theorem dJx4a65c_clear_da8c8_39 : decode cJx4a65c_clear_da8c8 39 = .ok (.goto (-12), 3) := by decide +kernel
theorem dJx4a65c_clear_da8c8_42 : decode cJx4a65c_clear_da8c8 42 = .ok (.return_, 1) := by decide +kernel
theorem cvJx4a65c_clear_da8c8 : CV yJx4a65c_clear_da8c8 cJx4a65c_clear_da8c8 4 none 0 0 := ⟨kw_570, kw_571, kw_4, kw_572, ⟨_, _, rfl⟩, by decide, by decide +kernel, by decide +kernel, by decide +kernel⟩
def fJx4a65c_clear_da8c8_b27 (sh : Sh) : Nat → Option Nat → Int32 → Int32 → Dt → Option (Dt)
  | 0, _, _, _, _ => none
  | n + 1, x1, x2, x3, d => if x2 ≤ x3 then (some (d)) else (bd x1 fun a2 => bd (cst sh 2 none) fun _ => bd (sR sh d 26 a2 x3 none) fun d3 => fJx4a65c_clear_da8c8_b27 sh n (some a2) x2 (x3 + 1) d3)

def fJx4a65c_clear_da8c8_b0 (sh : Sh) (x0 : Nat) (d : Dt) : Option (Dt) := bd (gI sh d 1 32 x0) fun v1 => bd (pI sh d 1 32 x0 (v1 + (1 : Int32))) fun d2 => bd (gR sh d2 1 33 x0) fun v3 => bd (gI sh d2 1 34 x0) fun v4 => bd (pI sh d2 1 34 x0 (0 : Int32)) fun d5 => fJx4a65c_clear_da8c8_b27 sh fu v3 v4 (0 : Int32) d5

def fJx4a65c_clear_da8c8 (sh : Sh) (d : Dt) (x0 : Nat) : Option (Dt) := fJx4a65c_clear_da8c8_b0 sh x0 d

set_option maxRecDepth 100000 in
set_option maxHeartbeats 4000000 in
theorem wJx4a65c_clear_da8c8_b27 (C : mx p s m args meth c yJx4a65c_clear_da8c8 cJx4a65c_clear_da8c8 4 none A D cy st) {d9 : Dt} : ∀ (n : Nat) (x1 : Option Nat) (x2 : Int32) (x3 : Int32) (d : Dt), fJx4a65c_clear_da8c8_b27 sh n x1 x2 x3 d = some d9 → ∀ {H : Heap} {locs : List Loc} {ls : Array Slot}, HW A D cy sz sh d H → va_S A s.heap H locs → lv_has ls 4 [(1, va_rf x1), (2, .int x2), (3, .int x3)] → GL p l e s m args below meth c 0 0 A D cy none sz sh d9 H locs 27 ls [] := by
  have hx := C.1
  have hb := C.2.1
  intro n
  induction n with
  | zero => intro x1 x2 x3 d hf; cases hf
  | succ n ih =>
    intro x1 x2 x3 d hf H locs ls hw hS hl
    rw [fJx4a65c_clear_da8c8_b27] at hf
    refine lv_iload_n hx hb dJx4a65c_clear_da8c8_27 rfl (lv_at hl 2 rfl) ?_
    refine lv_iload_n hx hb dJx4a65c_clear_da8c8_28 rfl (lv_at hl 1 rfl) ?_
    refine lv_icmp_ge (tgt := 42) hx hb dJx4a65c_clear_da8c8_29 (by decide) (fun c_1 => ?_) (fun c_1 => ?_)
    · have hf := if_t c_1 hf
      cases hf
      exact rt_v C hw hS dJx4a65c_clear_da8c8_42
    · have hf := if_f c_1 hf
      refine lq_aload_n hx hb dJx4a65c_clear_da8c8_32 rfl (lv_at hl 0 rfl) ?_
      refine lv_iload_n hx hb dJx4a65c_clear_da8c8_33 rfl (lv_at hl 2 rfl) ?_
      refine lv_null hx hb dJx4a65c_clear_da8c8_34 ?_
      obtain ⟨a2, ea2, hg⟩ := bd_s hf
      clear hf
      subst ea2
      have hf := hg
      clear hg
      obtain ⟨ud3, hud3, hf⟩ := bd_s hf
      obtain ⟨d3, hd3, hf⟩ := bd_s hf
      refine w_aast (ci := 1) (v := none) C hw hS 6 rfl (by decide) rfl rfl (by decide) hud3 (fun a b h1 h2 => vb_asgC (C := "ManyHands$Entry") (C.2.2.2.2.2.2.2.1.2.1 _ (by decide +kernel)) a b h1 h2) hd3 dJx4a65c_clear_da8c8_35 (fun H locs hw hS => ?_)
      refine lv_iinc (v := (x3 + 1)) (lv' := [(3, .int (x3 + 1)), (1, va_rf (some a2)), (2, .int x2)]) hx hb dJx4a65c_clear_da8c8_36 hl (k := 2) rfl rfl (by decide) rfl (fun ls hl => ?_)
      refine lv_goto (tgt := 27) hx hb dJx4a65c_clear_da8c8_39 (by decide) ?_
      exact ih (some a2) x2 (x3 + 1) d3 hf hw hS (lv_sub hl [1, 2, 0] rfl)

set_option maxRecDepth 100000 in
set_option maxHeartbeats 4000000 in
theorem wJx4a65c_clear_da8c8_b0 (C : mx p s m args meth c yJx4a65c_clear_da8c8 cJx4a65c_clear_da8c8 4 none A D cy st) {d9 : Dt} : ∀ (x0 : Nat) (d : Dt), fJx4a65c_clear_da8c8_b0 sh x0 d = some d9 → ∀ {H : Heap} {locs : List Loc} {ls : Array Slot}, HW A D cy sz sh d H → va_S A s.heap H locs → lv_has ls 4 [(0, .ref x0)] → GL p l e s m args below meth c 0 0 A D cy none sz sh d9 H locs 0 ls [] := by
  have hx := C.1
  have hb := C.2.1
  intro x0 d hf H locs ls hw hS hl
  unfold fJx4a65c_clear_da8c8_b0 at hf
  refine lv_aload_n hx hb dJx4a65c_clear_da8c8_0 rfl (lv_at hl 0 rfl) ?_
  refine lv_dup hx hb dJx4a65c_clear_da8c8_1 rfl ?_
  obtain ⟨v1, hv1, hf⟩ := bd_s hf
  refine gt_32 C hw hv1 kw_47 dJx4a65c_clear_da8c8_2 ?_
  refine lv_iconst (v := 1) hx hb dJx4a65c_clear_da8c8_5 (by decide) ?_
  refine lv_iadd hx hb dJx4a65c_clear_da8c8_6 ?_
  obtain ⟨d2, hd2, hf⟩ := bd_s hf
  refine pt_32 C hw hS hd2 kw_47 dJx4a65c_clear_da8c8_7 (fun H locs hw hS => ?_)
  refine lv_aload_n hx hb dJx4a65c_clear_da8c8_10 rfl (lv_at hl 0 rfl) ?_
  obtain ⟨v3, hv3, hf⟩ := bd_s hf
  refine gt_33 C hw hv3 kw_44 dJx4a65c_clear_da8c8_11 ?_
  refine lq_astore_n (lv' := [(1, va_rf v3), (0, .ref x0)]) hx hb dJx4a65c_clear_da8c8_14 rfl hl (by decide) rfl (fun ls hl => ?_)
  refine lv_aload_n hx hb dJx4a65c_clear_da8c8_15 rfl (lv_at hl 1 rfl) ?_
  obtain ⟨v4, hv4, hf⟩ := bd_s hf
  refine gt_34 C hw hv4 kw_45 dJx4a65c_clear_da8c8_16 ?_
  refine lv_istore_n (i := 2) (lv' := [(2, .int v4), (1, va_rf v3), (0, .ref x0)]) hx hb dJx4a65c_clear_da8c8_19 rfl hl (by decide) (by simp [va_rf_c, cat_i, cat_l, cat_r]) (fun ls hl => ?_)
  refine lv_aload_n hx hb dJx4a65c_clear_da8c8_20 rfl (lv_at hl 2 rfl) ?_
  refine lv_iconst (v := 0) hx hb dJx4a65c_clear_da8c8_21 (by decide) ?_
  refine lv_dup_x1 hx hb dJx4a65c_clear_da8c8_22 rfl rfl ?_
  obtain ⟨d5, hd5, hf⟩ := bd_s hf
  refine pt_34 C hw hS hd5 kw_45 dJx4a65c_clear_da8c8_23 (fun H locs hw hS => ?_)
  refine lv_istore_n (lv' := [(3, .int (0 : Int32)), (2, .int v4), (1, va_rf v3), (0, .ref x0)]) hx hb dJx4a65c_clear_da8c8_26 rfl hl (by decide) rfl (fun ls hl => ?_)
  exact wJx4a65c_clear_da8c8_b27 C fu v3 v4 (0 : Int32) d5 hf hw hS (lv_sub hl [2, 1, 0] rfl)

set_option maxRecDepth 100000 in
set_option maxHeartbeats 4000000 in
theorem tJx4a65c_clear_da8c8 (l : Launch) (A : Nat → Prop) (D : va_G) (cy : Nat → ClassId) (st : Nat → Nat) (sz : Nat) (sh : Sh) (d : Dt) (x0 : Nat) {d9 : Dt} (hf : fJx4a65c_clear_da8c8 sh d x0 = some d9) : Ct l yJx4a65c_clear_da8c8 cJx4a65c_clear_da8c8 4 none 0 0 0 0 A D cy st [.ref x0] sz sh d none sz sh d9 := ct_of (by decide) (Nat.le_of_ble_eq_true rfl) (fun p e s m args below meth c C hw hS ls hl => wJx4a65c_clear_da8c8_b0 C x0 d hf hw hS hl)
end
end
