def gtb : List Cond := lw_tbl.filter goodWord
theorem gtb_mem {w : Cond} (n : Nat) (h : lw_tbl[n]? = some w) (g : goodWord w = true) : w ∈ gtb := List.mem_filter.mpr ⟨List.mem_of_getElem? h, g⟩
theorem ks_0 : Cond.selects "ManyHands" ⟨"ManyHands", "pageAt", "(I)LManyHands$Page;"⟩ ⟨"ManyHands", "pageAt", "(I)LManyHands$Page;"⟩ ∈ gtb := gtb_mem 0 (by decide +kernel) rfl
theorem ks_1 : Cond.selects "ManyHands" ⟨"ManyHands", "handAt", "(I)LManyHands$Hand;"⟩ ⟨"ManyHands", "handAt", "(I)LManyHands$Hand;"⟩ ∈ gtb := gtb_mem 1 (by decide +kernel) rfl
theorem ks_2 : Cond.selects "ManyHands" ⟨"ManyHands", "refusalToChange", "(LManyHands$Hand;LManyHands$Page;I)I"⟩ ⟨"ManyHands", "refusalToChange", "(LManyHands$Hand;LManyHands$Page;I)I"⟩ ∈ gtb := gtb_mem 2 (by decide +kernel) rfl
theorem ks_3 : Cond.selects "ManyHands" ⟨"ManyHands", "refusalToSee", "(LManyHands$Hand;LManyHands$Page;I)I"⟩ ⟨"ManyHands", "refusalToSee", "(LManyHands$Hand;LManyHands$Page;I)I"⟩ ∈ gtb := gtb_mem 3 (by decide +kernel) rfl
theorem ks_4 : Cond.selects "ManyHands" ⟨"ManyHands", "found", "(I)I"⟩ ⟨"ManyHands", "found", "(I)I"⟩ ∈ gtb := gtb_mem 4 (by decide +kernel) rfl
theorem ks_5 : Cond.selects "ManyHands" ⟨"ManyHands", "make", "(LManyHands$Hand;LManyHands$Page;IIJ)I"⟩ ⟨"ManyHands", "make", "(LManyHands$Hand;LManyHands$Page;IIJ)I"⟩ ∈ gtb := gtb_mem 5 (by decide +kernel) rfl
theorem ks_6 : Cond.selects "java/util/ArrayList" ⟨"java/util/ArrayList", "add", "(Ljava/lang/Object;[Ljava/lang/Object;I)V"⟩ ⟨"java/util/ArrayList", "add", "(Ljava/lang/Object;[Ljava/lang/Object;I)V"⟩ ∈ gtb := gtb_mem 6 (by decide +kernel) rfl
theorem ks_7 : Cond.selects "java/util/ArrayList" ⟨"java/util/ArrayList", "grow", "()[Ljava/lang/Object;"⟩ ⟨"java/util/ArrayList", "grow", "()[Ljava/lang/Object;"⟩ ∈ gtb := gtb_mem 7 (by decide +kernel) rfl
theorem ks_8 : Cond.selects "java/util/ArrayList" ⟨"java/util/ArrayList", "grow", "(I)[Ljava/lang/Object;"⟩ ⟨"java/util/ArrayList", "grow", "(I)[Ljava/lang/Object;"⟩ ∈ gtb := gtb_mem 8 (by decide +kernel) rfl
theorem ks_9 : Cond.selects "ManyHands$Page" ⟨"ManyHands$Page", "unknownTo", "(LManyHands$Reach;III)I"⟩ ⟨"ManyHands$Page", "unknownTo", "(LManyHands$Reach;III)I"⟩ ∈ gtb := gtb_mem 9 (by decide +kernel) rfl
theorem ks_10 : Cond.selects "ManyHands$Page" ⟨"ManyHands$Page", "gatherKnown", "(LManyHands$Reach;II)V"⟩ ⟨"ManyHands$Page", "gatherKnown", "(LManyHands$Reach;II)V"⟩ ∈ gtb := gtb_mem 10 (by decide +kernel) rfl
theorem ks_11 : Cond.selects "ManyHands" ⟨"ManyHands", "makeOfRights", "(LManyHands$Hand;LManyHands$Page;IIJ)I"⟩ ⟨"ManyHands", "makeOfRights", "(LManyHands$Hand;LManyHands$Page;IIJ)I"⟩ ∈ gtb := gtb_mem 11 (by decide +kernel) rfl
theorem ks_12 : Cond.selects "ManyHands" ⟨"ManyHands", "entryAt", "(I)LManyHands$Entry;"⟩ ⟨"ManyHands", "entryAt", "(I)LManyHands$Entry;"⟩ ∈ gtb := gtb_mem 12 (by decide +kernel) rfl
theorem ks_13 : Cond.selects "ManyHands" ⟨"ManyHands", "allHave", "(LManyHands$Entry;)Z"⟩ ⟨"ManyHands", "allHave", "(LManyHands$Entry;)Z"⟩ ∈ gtb := gtb_mem 13 (by decide +kernel) rfl
theorem ks_14 : Cond.selects "java/util/ArrayList" ⟨"java/util/ArrayList", "rangeCheckForAdd", "(I)V"⟩ ⟨"java/util/ArrayList", "rangeCheckForAdd", "(I)V"⟩ ∈ gtb := gtb_mem 14 (by decide +kernel) rfl
theorem ks_15 : Cond.selects "java/util/ArrayList" ⟨"java/util/ArrayList", "fastRemove", "([Ljava/lang/Object;I)V"⟩ ⟨"java/util/ArrayList", "fastRemove", "([Ljava/lang/Object;I)V"⟩ ∈ gtb := gtb_mem 15 (by decide +kernel) rfl
theorem ks_16 : Cond.selects "ManyHands" ⟨"ManyHands", "leastLacking", "(LManyHands$Hand;LManyHands$Hand;)LManyHands$Entry;"⟩ ⟨"ManyHands", "leastLacking", "(LManyHands$Hand;LManyHands$Hand;)LManyHands$Entry;"⟩ ∈ gtb := gtb_mem 16 (by decide +kernel) rfl
theorem ks_17 : Cond.selects "ManyHands" ⟨"ManyHands", "tellAnd", "(JI)I"⟩ ⟨"ManyHands", "tellAnd", "(JI)I"⟩ ∈ gtb := gtb_mem 17 (by decide +kernel) rfl
theorem ks_18 : Cond.selects "ManyHands$Page" ⟨"ManyHands$Page", "headAbove", "(LManyHands$Reach;LManyHands$Entry;)LManyHands$Entry;"⟩ ⟨"ManyHands$Page", "headAbove", "(LManyHands$Reach;LManyHands$Entry;)LManyHands$Entry;"⟩ ∈ gtb := gtb_mem 18 (by decide +kernel) rfl
theorem ks_19 : Cond.selects "ManyHands$Page" ⟨"ManyHands$Page", "tellLast", "(LManyHands$Reach;LManyHands$Telling;)V"⟩ ⟨"ManyHands$Page", "tellLast", "(LManyHands$Reach;LManyHands$Telling;)V"⟩ ∈ gtb := gtb_mem 19 (by decide +kernel) rfl
theorem ks_20 : Cond.selects "ManyHands$Page" ⟨"ManyHands$Page", "tellTally", "(LManyHands$Reach;LManyHands$Telling;)V"⟩ ⟨"ManyHands$Page", "tellTally", "(LManyHands$Reach;LManyHands$Telling;)V"⟩ ∈ gtb := gtb_mem 20 (by decide +kernel) rfl
theorem ks_21 : Cond.selects "ManyHands" ⟨"ManyHands", "refusalToRead", "(LManyHands$LeafRow;I)I"⟩ ⟨"ManyHands", "refusalToRead", "(LManyHands$LeafRow;I)I"⟩ ∈ gtb := gtb_mem 21 (by decide +kernel) rfl
theorem ks_22 : Cond.selects "ManyHandsModel" ⟨"ManyHandsModel", "isPage", "(I)Z"⟩ ⟨"ManyHandsModel", "isPage", "(I)Z"⟩ ∈ gtb := gtb_mem 22 (by decide +kernel) rfl
theorem ks_23 : Cond.selects "ManyHandsModel" ⟨"ManyHandsModel", "isOf", "(II)Z"⟩ ⟨"ManyHandsModel", "isOf", "(II)Z"⟩ ∈ gtb := gtb_mem 23 (by decide +kernel) rfl
theorem ks_24 : Cond.selects "ManyHandsModel" ⟨"ManyHandsModel", "isHand", "(I)Z"⟩ ⟨"ManyHandsModel", "isHand", "(I)Z"⟩ ∈ gtb := gtb_mem 24 (by decide +kernel) rfl
theorem ks_25 : Cond.selects "ManyHandsModel" ⟨"ManyHandsModel", "needMake", "(ZIII)I"⟩ ⟨"ManyHandsModel", "needMake", "(ZIII)I"⟩ ∈ gtb := gtb_mem 25 (by decide +kernel) rfl
theorem ks_26 : Cond.selects "ManyHandsModel" ⟨"ManyHandsModel", "ownOf", "(I)I"⟩ ⟨"ManyHandsModel", "ownOf", "(I)I"⟩ ∈ gtb := gtb_mem 26 (by decide +kernel) rfl
theorem ks_27 : Cond.selects "ManyHandsModel" ⟨"ManyHandsModel", "needSee", "(III)I"⟩ ⟨"ManyHandsModel", "needSee", "(III)I"⟩ ∈ gtb := gtb_mem 27 (by decide +kernel) rfl
theorem ks_28 : Cond.selects "ManyHandsModel" ⟨"ManyHandsModel", "meets", "(I)I"⟩ ⟨"ManyHandsModel", "meets", "(I)I"⟩ ∈ gtb := gtb_mem 28 (by decide +kernel) rfl
theorem ks_29 : Cond.selects "ManyHandsModel" ⟨"ManyHandsModel", "make", "(IIIIIJ)I"⟩ ⟨"ManyHandsModel", "make", "(IIIIIJ)I"⟩ ∈ gtb := gtb_mem 29 (by decide +kernel) rfl
theorem ks_30 : Cond.selects "ManyHandsModel" ⟨"ManyHandsModel", "greatestCount", "(I)I"⟩ ⟨"ManyHandsModel", "greatestCount", "(I)I"⟩ ∈ gtb := gtb_mem 30 (by decide +kernel) rfl
theorem ks_31 : Cond.selects "ManyHandsModel" ⟨"ManyHandsModel", "countIn", "(III)I"⟩ ⟨"ManyHandsModel", "countIn", "(III)I"⟩ ∈ gtb := gtb_mem 31 (by decide +kernel) rfl
theorem ks_32 : Cond.selects "ManyHandsModel" ⟨"ManyHandsModel", "isOn", "(IIII)Z"⟩ ⟨"ManyHandsModel", "isOn", "(IIII)Z"⟩ ∈ gtb := gtb_mem 32 (by decide +kernel) rfl
theorem ks_33 : Cond.selects "ManyHandsModel" ⟨"ManyHandsModel", "rightsOf", "(III)J"⟩ ⟨"ManyHandsModel", "rightsOf", "(III)J"⟩ ∈ gtb := gtb_mem 33 (by decide +kernel) rfl
theorem ks_34 : Cond.selects "ManyHandsModel" ⟨"ManyHandsModel", "isChange", "(I)Z"⟩ ⟨"ManyHandsModel", "isChange", "(I)Z"⟩ ∈ gtb := gtb_mem 34 (by decide +kernel) rfl
theorem ks_35 : Cond.selects "ManyHandsModel" ⟨"ManyHandsModel", "size", "([JI)I"⟩ ⟨"ManyHandsModel", "size", "([JI)I"⟩ ∈ gtb := gtb_mem 35 (by decide +kernel) rfl
theorem ks_36 : Cond.selects "ManyHandsModel" ⟨"ManyHandsModel", "isReady", "(II)Z"⟩ ⟨"ManyHandsModel", "isReady", "(II)Z"⟩ ∈ gtb := gtb_mem 36 (by decide +kernel) rfl
theorem ks_37 : Cond.selects "ManyHandsModel" ⟨"ManyHandsModel", "takes", "(II)I"⟩ ⟨"ManyHandsModel", "takes", "(II)I"⟩ ∈ gtb := gtb_mem 37 (by decide +kernel) rfl
theorem ks_38 : Cond.selects "ManyHandsModel" ⟨"ManyHandsModel", "nextReady", "(I)I"⟩ ⟨"ManyHandsModel", "nextReady", "(I)I"⟩ ∈ gtb := gtb_mem 38 (by decide +kernel) rfl
theorem ks_39 : Cond.selects "ManyHandsModel" ⟨"ManyHandsModel", "isAfter", "(II)Z"⟩ ⟨"ManyHandsModel", "isAfter", "(II)Z"⟩ ∈ gtb := gtb_mem 39 (by decide +kernel) rfl
theorem ks_40 : Cond.selects "ManyHandsModel" ⟨"ManyHandsModel", "need", "(ZIII)I"⟩ ⟨"ManyHandsModel", "need", "(ZIII)I"⟩ ∈ gtb := gtb_mem 40 (by decide +kernel) rfl
theorem ks_41 : Cond.selects "ManyHandsModel" ⟨"ManyHandsModel", "telling", "(II)I"⟩ ⟨"ManyHandsModel", "telling", "(II)I"⟩ ∈ gtb := gtb_mem 41 (by decide +kernel) rfl
theorem ks_42 : Cond.selects "ManyHandsModel" ⟨"ManyHandsModel", "sumOf", "(II)J"⟩ ⟨"ManyHandsModel", "sumOf", "(II)J"⟩ ∈ gtb := gtb_mem 42 (by decide +kernel) rfl
theorem ks_43 : Cond.selects "ManyHandsModel" ⟨"ManyHandsModel", "manyOn", "(II)I"⟩ ⟨"ManyHandsModel", "manyOn", "(II)I"⟩ ∈ gtb := gtb_mem 43 (by decide +kernel) rfl
theorem ks_44 : Cond.selects "ManyHandsModel" ⟨"ManyHandsModel", "layHeads", "(II)V"⟩ ⟨"ManyHandsModel", "layHeads", "(II)V"⟩ ∈ gtb := gtb_mem 44 (by decide +kernel) rfl
theorem ks_45 : Cond.selects "ManyHandsModel" ⟨"ManyHandsModel", "isKnown", "(IIII)Z"⟩ ⟨"ManyHandsModel", "isKnown", "(IIII)Z"⟩ ∈ gtb := gtb_mem 45 (by decide +kernel) rfl
theorem ks_46 : Cond.selects "ManyHandsModel" ⟨"ManyHandsModel", "isUp", "(II)Z"⟩ ⟨"ManyHandsModel", "isUp", "(II)Z"⟩ ∈ gtb := gtb_mem 46 (by decide +kernel) rfl
theorem ks_47 : Cond.selects "ManyHandsModel" ⟨"ManyHandsModel", "manyDo", "(III)I"⟩ ⟨"ManyHandsModel", "manyDo", "(III)I"⟩ ∈ gtb := gtb_mem 47 (by decide +kernel) rfl
theorem ks_48 : Cond.selects "ManyHandsModel" ⟨"ManyHandsModel", "lay", "(II[J)I"⟩ ⟨"ManyHandsModel", "lay", "(II[J)I"⟩ ∈ gtb := gtb_mem 48 (by decide +kernel) rfl
theorem ks_49 : Cond.selects "ManyHandsModel" ⟨"ManyHandsModel", "lacksLeaf", "(II)I"⟩ ⟨"ManyHandsModel", "lacksLeaf", "(II)I"⟩ ∈ gtb := gtb_mem 49 (by decide +kernel) rfl
theorem kw_0 : (Jvm.Cond.initialized "ManyHandsLaw") ∈ gtb := gtb_mem 50 (by decide +kernel) rfl
theorem kw_1 : (Jvm.Cond.initialized "ManyHands") ∈ gtb := gtb_mem 51 (by decide +kernel) rfl
theorem kw_2 : (Jvm.Cond.initialized "java/util/AbstractCollection") ∈ gtb := gtb_mem 52 (by decide +kernel) rfl
theorem kw_3 : (Jvm.Cond.initialized "java/util/AbstractList") ∈ gtb := gtb_mem 53 (by decide +kernel) rfl
theorem kw_4 : (Jvm.Cond.initialized "java/util/ArrayList") ∈ gtb := gtb_mem 54 (by decide +kernel) rfl
theorem kw_5 : (Jvm.Cond.initialized "ManyHands$Telling") ∈ gtb := gtb_mem 55 (by decide +kernel) rfl
theorem kw_6 : (Jvm.Cond.initialized "ManyHandsModel") ∈ gtb := gtb_mem 56 (by decide +kernel) rfl
theorem kw_7 : (Jvm.Cond.initialized "ManyHands$Hand") ∈ gtb := gtb_mem 57 (by decide +kernel) rfl
theorem kw_8 : (Jvm.Cond.initialized "ManyHands$Reach") ∈ gtb := gtb_mem 58 (by decide +kernel) rfl
theorem kw_9 : (Jvm.Cond.initialized "ManyHands$LeafRow") ∈ gtb := gtb_mem 59 (by decide +kernel) rfl
theorem kw_10 : (Jvm.Cond.initialized "ManyHands$Page") ∈ gtb := gtb_mem 60 (by decide +kernel) rfl
theorem kw_11 : (Jvm.Cond.initialized "ManyHands$Entry") ∈ gtb := gtb_mem 61 (by decide +kernel) rfl
theorem kw_12 : (Jvm.Cond.initialized "jdk/internal/util/ArraysSupport") ∈ gtb := gtb_mem 62 (by decide +kernel) rfl
theorem kw_13 : (Jvm.Cond.initialized "java/lang/Math") ∈ gtb := gtb_mem 63 (by decide +kernel) rfl
theorem kw_14 : (Jvm.Cond.initialized "java/util/Arrays") ∈ gtb := gtb_mem 64 (by decide +kernel) rfl
theorem kw_15 : (Jvm.Cond.initialized "java/lang/System") ∈ gtb := gtb_mem 65 (by decide +kernel) rfl
theorem kw_16 : (Jvm.Cond.initialized "java/util/Objects") ∈ gtb := gtb_mem 66 (by decide +kernel) rfl
theorem kw_17 : (Jvm.Cond.initialized "jdk/internal/util/Preconditions") ∈ gtb := gtb_mem 67 (by decide +kernel) rfl
theorem kw_18 : (Jvm.Cond.classLink "ManyHandsLaw" (7 : Nat) "ManyHands") ∈ gtb := gtb_mem 68 (by decide +kernel) rfl
theorem kw_19 : (Jvm.Cond.instantiable "ManyHands" (10 : Nat)) ∈ gtb := gtb_mem 69 (by decide +kernel) rfl
theorem kw_20 : (Jvm.Cond.methodLink "ManyHandsLaw" (9 : Nat) ({ cls := "ManyHands", name := "<init>", desc := "()V" } : Jvm.MethodName)) ∈ gtb := gtb_mem 70 (by decide +kernel) rfl
theorem kw_21 : (Jvm.Cond.instanceMethod ({ cls := "ManyHands", name := "<init>", desc := "()V" } : Jvm.MethodName)) ∈ gtb := gtb_mem 71 (by decide +kernel) rfl
set_option maxRecDepth 20000 in
theorem kw_22 : (Jvm.Cond.code ({ cls := "ManyHands", name := "<init>", desc := "()V" } : Jvm.MethodName) prog_1_method_1_code (1 : Nat) (Option.none : Option Jvm.ClassFile.FieldType)) ∈ gtb := gtb_mem 72 (by exact rfl) rfl
theorem kw_23 : (Jvm.Cond.methodLink "ManyHands" (1 : Nat) ({ cls := "java/lang/Object", name := "<init>", desc := "()V" } : Jvm.MethodName)) ∈ gtb := gtb_mem 73 (by decide +kernel) rfl
theorem kw_24 : (Jvm.Cond.instanceMethod ({ cls := "java/lang/Object", name := "<init>", desc := "()V" } : Jvm.MethodName)) ∈ gtb := gtb_mem 74 (by decide +kernel) rfl
set_option maxRecDepth 20000 in
theorem kw_25 : (Jvm.Cond.code ({ cls := "java/lang/Object", name := "<init>", desc := "()V" } : Jvm.MethodName) object_method_1_code (1 : Nat) (Option.none : Option Jvm.ClassFile.FieldType)) ∈ gtb := gtb_mem 75 (by exact rfl) rfl
theorem kw_26 : (Jvm.Cond.classLink "ManyHands" (9 : Nat) "ManyHands$Hand") ∈ gtb := gtb_mem 76 (by decide +kernel) rfl
theorem kw_28 : (Jvm.Cond.classLink "ManyHands" (15 : Nat) "ManyHands$Page") ∈ gtb := gtb_mem 78 (by decide +kernel) rfl
theorem kw_30 : (Jvm.Cond.classLink "ManyHands" (21 : Nat) "java/util/ArrayList") ∈ gtb := gtb_mem 80 (by decide +kernel) rfl
theorem kw_31 : (Jvm.Cond.instantiable "java/util/ArrayList" (3 : Nat)) ∈ gtb := gtb_mem 81 (by decide +kernel) rfl
theorem kw_32 : (Jvm.Cond.methodLink "ManyHands" (23 : Nat) ({ cls := "java/util/ArrayList", name := "<init>", desc := "()V" } : Jvm.MethodName)) ∈ gtb := gtb_mem 82 (by decide +kernel) rfl
theorem kw_33 : (Jvm.Cond.instanceMethod ({ cls := "java/util/ArrayList", name := "<init>", desc := "()V" } : Jvm.MethodName)) ∈ gtb := gtb_mem 83 (by decide +kernel) rfl
set_option maxRecDepth 20000 in
theorem kw_34 : (Jvm.Cond.code ({ cls := "java/util/ArrayList", name := "<init>", desc := "()V" } : Jvm.MethodName) prog_17_method_2_code (1 : Nat) (Option.none : Option Jvm.ClassFile.FieldType)) ∈ gtb := gtb_mem 84 (by exact rfl) rfl
theorem kw_35 : (Jvm.Cond.methodLink "java/util/ArrayList" (1 : Nat) ({ cls := "java/util/AbstractList", name := "<init>", desc := "()V" } : Jvm.MethodName)) ∈ gtb := gtb_mem 85 (by decide +kernel) rfl
theorem kw_36 : (Jvm.Cond.instanceMethod ({ cls := "java/util/AbstractList", name := "<init>", desc := "()V" } : Jvm.MethodName)) ∈ gtb := gtb_mem 86 (by decide +kernel) rfl
set_option maxRecDepth 20000 in
theorem kw_37 : (Jvm.Cond.code ({ cls := "java/util/AbstractList", name := "<init>", desc := "()V" } : Jvm.MethodName) prog_16_method_1_code (1 : Nat) (Option.none : Option Jvm.ClassFile.FieldType)) ∈ gtb := gtb_mem 87 (by exact rfl) rfl
theorem kw_38 : (Jvm.Cond.methodLink "java/util/AbstractList" (1 : Nat) ({ cls := "java/util/AbstractCollection", name := "<init>", desc := "()V" } : Jvm.MethodName)) ∈ gtb := gtb_mem 88 (by decide +kernel) rfl
theorem kw_39 : (Jvm.Cond.instanceMethod ({ cls := "java/util/AbstractCollection", name := "<init>", desc := "()V" } : Jvm.MethodName)) ∈ gtb := gtb_mem 89 (by decide +kernel) rfl
set_option maxRecDepth 20000 in
theorem kw_40 : (Jvm.Cond.code ({ cls := "java/util/AbstractCollection", name := "<init>", desc := "()V" } : Jvm.MethodName) prog_15_method_1_code (1 : Nat) (Option.none : Option Jvm.ClassFile.FieldType)) ∈ gtb := gtb_mem 90 (by exact rfl) rfl
theorem kw_41 : (Jvm.Cond.methodLink "java/util/AbstractCollection" (1 : Nat) ({ cls := "java/lang/Object", name := "<init>", desc := "()V" } : Jvm.MethodName)) ∈ gtb := gtb_mem 91 (by decide +kernel) rfl
theorem kw_42 : (Jvm.Cond.fieldLink "java/util/ArrayList" (39 : Nat) "java/util/ArrayList" "DEFAULTCAPACITY_EMPTY_ELEMENTDATA" "[Ljava/lang/Object;") ∈ gtb := gtb_mem 92 (by decide +kernel) rfl
theorem kw_44 : (Jvm.Cond.fieldLink "java/util/ArrayList" (9 : Nat) "java/util/ArrayList" "elementData" "[Ljava/lang/Object;") ∈ gtb := gtb_mem 94 (by decide +kernel) rfl
theorem kw_45 : (Jvm.Cond.fieldLink "java/util/ArrayList" (48 : Nat) "java/util/ArrayList" "size" "I") ∈ gtb := gtb_mem 95 (by decide +kernel) rfl
theorem kw_46 : (Jvm.Cond.fieldLink "java/util/AbstractList" (7 : Nat) "java/util/AbstractList" "modCount" "I") ∈ gtb := gtb_mem 96 (by decide +kernel) rfl
theorem kw_47 : (Jvm.Cond.fieldLink "java/util/ArrayList" (63 : Nat) "java/util/ArrayList" "modCount" "I") ∈ gtb := gtb_mem 97 (by decide +kernel) rfl
theorem kw_48 : (Jvm.Cond.sameField "java/util/ArrayList" "java/util/AbstractList" "modCount" "I") ∈ gtb := gtb_mem 98 (by decide +kernel) rfl
theorem kw_49 : (Jvm.Cond.lays "java/util/ArrayList" "java/util/ArrayList" "elementData" "[Ljava/lang/Object;") ∈ gtb := gtb_mem 99 (by decide +kernel) rfl
theorem kw_51 : (Jvm.Cond.lays "java/util/ArrayList" "java/util/ArrayList" "size" "I") ∈ gtb := gtb_mem 101 (by decide +kernel) rfl
theorem kw_53 : (Jvm.Cond.lays "java/util/ArrayList" "java/util/AbstractList" "modCount" "I") ∈ gtb := gtb_mem 103 (by decide +kernel) rfl
theorem kw_56 : (Jvm.Cond.classLink "ManyHands" (32 : Nat) "ManyHands$Telling") ∈ gtb := gtb_mem 106 (by decide +kernel) rfl
theorem kw_57 : (Jvm.Cond.instantiable "ManyHands$Telling" (2 : Nat)) ∈ gtb := gtb_mem 107 (by decide +kernel) rfl
theorem kw_59 : (Jvm.Cond.instanceMethod ({ cls := "ManyHands$Telling", name := "<init>", desc := "()V" } : Jvm.MethodName)) ∈ gtb := gtb_mem 109 (by decide +kernel) rfl
set_option maxRecDepth 20000 in
theorem kw_60 : (Jvm.Cond.code ({ cls := "ManyHands$Telling", name := "<init>", desc := "()V" } : Jvm.MethodName) prog_7_method_1_code (1 : Nat) (Option.none : Option Jvm.ClassFile.FieldType)) ∈ gtb := gtb_mem 110 (by exact rfl) rfl
theorem kw_61 : (Jvm.Cond.methodLink "ManyHands$Telling" (3 : Nat) ({ cls := "java/lang/Object", name := "<init>", desc := "()V" } : Jvm.MethodName)) ∈ gtb := gtb_mem 111 (by decide +kernel) rfl
theorem kw_62 : (Jvm.Cond.fieldLink "ManyHands$Telling" (9 : Nat) "ManyHands$Telling" "numbers" "[J") ∈ gtb := gtb_mem 112 (by decide +kernel) rfl
theorem kw_63 : (Jvm.Cond.fieldLink "ManyHands$Telling" (15 : Nat) "ManyHands$Telling" "size" "I") ∈ gtb := gtb_mem 113 (by decide +kernel) rfl
theorem kw_64 : (Jvm.Cond.fieldLink "ManyHands$Page" (95 : Nat) "ManyHands$Telling" "size" "I") ∈ gtb := gtb_mem 114 (by decide +kernel) rfl
theorem kw_65 : (Jvm.Cond.laysFinal "ManyHands$Telling" "ManyHands$Telling" "numbers" "[J") ∈ gtb := gtb_mem 115 (by decide +kernel) rfl
theorem kw_67 : (Jvm.Cond.lays "ManyHands$Telling" "ManyHands$Telling" "size" "I") ∈ gtb := gtb_mem 117 (by decide +kernel) rfl
theorem kw_70 : (Jvm.Cond.arrayClass Jvm.ClassFile.FieldType.int) ∈ gtb := gtb_mem 120 (by decide +kernel) rfl
theorem kw_71 : (Jvm.Cond.arrayClass Jvm.ClassFile.FieldType.long) ∈ gtb := gtb_mem 121 (by decide +kernel) rfl
theorem kw_72 : (Jvm.Cond.fieldLink "ManyHands" (11 : Nat) "ManyHands" "hands" "[LManyHands$Hand;") ∈ gtb := gtb_mem 122 (by decide +kernel) rfl
theorem kw_73 : (Jvm.Cond.fieldLink "ManyHands" (17 : Nat) "ManyHands" "pages" "[LManyHands$Page;") ∈ gtb := gtb_mem 123 (by decide +kernel) rfl
theorem kw_74 : (Jvm.Cond.fieldLink "ManyHands" (24 : Nat) "ManyHands" "entries" "Ljava/util/ArrayList;") ∈ gtb := gtb_mem 124 (by decide +kernel) rfl
theorem kw_75 : (Jvm.Cond.fieldLink "ManyHands" (28 : Nat) "ManyHands" "timesFound" "[I") ∈ gtb := gtb_mem 125 (by decide +kernel) rfl
theorem kw_76 : (Jvm.Cond.fieldLink "ManyHands" (35 : Nat) "ManyHands" "telling" "LManyHands$Telling;") ∈ gtb := gtb_mem 126 (by decide +kernel) rfl
theorem kw_77 : (Jvm.Cond.fieldLink "ManyHands" (39 : Nat) "ManyHands" "otherTelling" "LManyHands$Telling;") ∈ gtb := gtb_mem 127 (by decide +kernel) rfl
theorem kw_78 : (Jvm.Cond.fieldLink "ManyHands" (42 : Nat) "ManyHands" "handCount" "I") ∈ gtb := gtb_mem 128 (by decide +kernel) rfl
theorem kw_79 : (Jvm.Cond.fieldLink "ManyHands" (57 : Nat) "ManyHands" "pageCount" "I") ∈ gtb := gtb_mem 129 (by decide +kernel) rfl
theorem kw_80 : (Jvm.Cond.fieldLink "ManyHands" (260 : Nat) "ManyHands" "latestFinding" "I") ∈ gtb := gtb_mem 130 (by decide +kernel) rfl
theorem kw_81 : (Jvm.Cond.fieldLink "ManyHands" (237 : Nat) "ManyHands" "latestTold" "J") ∈ gtb := gtb_mem 131 (by decide +kernel) rfl
theorem kw_82 : (Jvm.Cond.laysFinal "ManyHands" "ManyHands" "hands" "[LManyHands$Hand;") ∈ gtb := gtb_mem 132 (by decide +kernel) rfl
theorem kw_84 : (Jvm.Cond.laysFinal "ManyHands" "ManyHands" "pages" "[LManyHands$Page;") ∈ gtb := gtb_mem 134 (by decide +kernel) rfl
theorem kw_86 : (Jvm.Cond.laysFinal "ManyHands" "ManyHands" "entries" "Ljava/util/ArrayList;") ∈ gtb := gtb_mem 136 (by decide +kernel) rfl
theorem kw_88 : (Jvm.Cond.laysFinal "ManyHands" "ManyHands" "timesFound" "[I") ∈ gtb := gtb_mem 138 (by decide +kernel) rfl
theorem kw_90 : (Jvm.Cond.laysFinal "ManyHands" "ManyHands" "telling" "LManyHands$Telling;") ∈ gtb := gtb_mem 140 (by decide +kernel) rfl
theorem kw_92 : (Jvm.Cond.laysFinal "ManyHands" "ManyHands" "otherTelling" "LManyHands$Telling;") ∈ gtb := gtb_mem 142 (by decide +kernel) rfl
theorem kw_94 : (Jvm.Cond.lays "ManyHands" "ManyHands" "handCount" "I") ∈ gtb := gtb_mem 144 (by decide +kernel) rfl
theorem kw_96 : (Jvm.Cond.lays "ManyHands" "ManyHands" "pageCount" "I") ∈ gtb := gtb_mem 146 (by decide +kernel) rfl
theorem kw_98 : (Jvm.Cond.lays "ManyHands" "ManyHands" "latestFinding" "I") ∈ gtb := gtb_mem 148 (by decide +kernel) rfl
theorem kw_100 : (Jvm.Cond.lays "ManyHands" "ManyHands" "latestTold" "J") ∈ gtb := gtb_mem 150 (by decide +kernel) rfl
theorem kw_103 : (Jvm.Cond.methodLink "ManyHandsLaw" (13 : Nat) ({ cls := "ManyHands", name := "hand", desc := "()I" } : Jvm.MethodName)) ∈ gtb := gtb_mem 153 (by decide +kernel) rfl
theorem kw_104 : (Jvm.Cond.instanceMethod ({ cls := "ManyHands", name := "hand", desc := "()I" } : Jvm.MethodName)) ∈ gtb := gtb_mem 154 (by decide +kernel) rfl
theorem kw_105 : (Jvm.Cond.selects "ManyHands" ({ cls := "ManyHands", name := "hand", desc := "()I" } : Jvm.MethodName) ({ cls := "ManyHands", name := "hand", desc := "()I" } : Jvm.MethodName)) ∈ gtb := gtb_mem 155 (by decide +kernel) rfl
set_option maxRecDepth 20000 in
theorem kw_106 : (Jvm.Cond.code ({ cls := "ManyHands", name := "hand", desc := "()I" } : Jvm.MethodName) prog_1_method_2_code (1 : Nat) (Option.some Jvm.ClassFile.FieldType.int)) ∈ gtb := gtb_mem 156 (by exact rfl) rfl
theorem kw_107 : (Jvm.Cond.methodLink "ManyHands" (46 : Nat) ({ cls := "java/util/ArrayList", name := "isEmpty", desc := "()Z" } : Jvm.MethodName)) ∈ gtb := gtb_mem 157 (by decide +kernel) rfl
theorem kw_108 : (Jvm.Cond.instanceMethod ({ cls := "java/util/ArrayList", name := "isEmpty", desc := "()Z" } : Jvm.MethodName)) ∈ gtb := gtb_mem 158 (by decide +kernel) rfl
theorem kw_109 : (Jvm.Cond.selects "java/util/ArrayList" ({ cls := "java/util/ArrayList", name := "isEmpty", desc := "()Z" } : Jvm.MethodName) ({ cls := "java/util/ArrayList", name := "isEmpty", desc := "()Z" } : Jvm.MethodName)) ∈ gtb := gtb_mem 159 (by decide +kernel) rfl
set_option maxRecDepth 20000 in
theorem kw_110 : (Jvm.Cond.code ({ cls := "java/util/ArrayList", name := "isEmpty", desc := "()Z" } : Jvm.MethodName) prog_17_method_9_code (1 : Nat) (Option.some Jvm.ClassFile.FieldType.boolean)) ∈ gtb := gtb_mem 160 (by exact rfl) rfl
theorem kw_111 : (Jvm.Cond.instantiable "ManyHands$Hand" (7 : Nat)) ∈ gtb := gtb_mem 161 (by decide +kernel) rfl
theorem kw_112 : (Jvm.Cond.methodLink "ManyHands" (50 : Nat) ({ cls := "ManyHands$Hand", name := "<init>", desc := "(I)V" } : Jvm.MethodName)) ∈ gtb := gtb_mem 162 (by decide +kernel) rfl
theorem kw_113 : (Jvm.Cond.instanceMethod ({ cls := "ManyHands$Hand", name := "<init>", desc := "(I)V" } : Jvm.MethodName)) ∈ gtb := gtb_mem 163 (by decide +kernel) rfl
set_option maxRecDepth 20000 in
theorem kw_114 : (Jvm.Cond.code ({ cls := "ManyHands$Hand", name := "<init>", desc := "(I)V" } : Jvm.MethodName) prog_3_method_1_code (2 : Nat) (Option.none : Option Jvm.ClassFile.FieldType)) ∈ gtb := gtb_mem 164 (by exact rfl) rfl
theorem kw_115 : (Jvm.Cond.methodLink "ManyHands$Hand" (3 : Nat) ({ cls := "java/lang/Object", name := "<init>", desc := "()V" } : Jvm.MethodName)) ∈ gtb := gtb_mem 165 (by decide +kernel) rfl
theorem kw_116 : (Jvm.Cond.classLink "ManyHands$Hand" (9 : Nat) "ManyHands$Reach") ∈ gtb := gtb_mem 166 (by decide +kernel) rfl
theorem kw_117 : (Jvm.Cond.instantiable "ManyHands$Reach" (1 : Nat)) ∈ gtb := gtb_mem 167 (by decide +kernel) rfl
theorem kw_119 : (Jvm.Cond.instanceMethod ({ cls := "ManyHands$Reach", name := "<init>", desc := "()V" } : Jvm.MethodName)) ∈ gtb := gtb_mem 169 (by decide +kernel) rfl
set_option maxRecDepth 20000 in
theorem kw_120 : (Jvm.Cond.code ({ cls := "ManyHands$Reach", name := "<init>", desc := "()V" } : Jvm.MethodName) prog_6_method_1_code (1 : Nat) (Option.none : Option Jvm.ClassFile.FieldType)) ∈ gtb := gtb_mem 170 (by exact rfl) rfl
theorem kw_121 : (Jvm.Cond.methodLink "ManyHands$Reach" (3 : Nat) ({ cls := "java/lang/Object", name := "<init>", desc := "()V" } : Jvm.MethodName)) ∈ gtb := gtb_mem 171 (by decide +kernel) rfl
theorem kw_122 : (Jvm.Cond.fieldLink "ManyHands$Reach" (9 : Nat) "ManyHands$Reach" "upTo" "[I") ∈ gtb := gtb_mem 172 (by decide +kernel) rfl
theorem kw_123 : (Jvm.Cond.fieldLink "ManyHands$Hand" (43 : Nat) "ManyHands$Reach" "upTo" "[I") ∈ gtb := gtb_mem 173 (by decide +kernel) rfl
theorem kw_124 : (Jvm.Cond.fieldLink "ManyHands" (306 : Nat) "ManyHands$Reach" "upTo" "[I") ∈ gtb := gtb_mem 174 (by decide +kernel) rfl
theorem kw_125 : (Jvm.Cond.laysFinal "ManyHands$Reach" "ManyHands$Reach" "upTo" "[I") ∈ gtb := gtb_mem 175 (by decide +kernel) rfl
theorem kw_128 : (Jvm.Cond.classLink "ManyHands$Hand" (18 : Nat) "java/util/ArrayList") ∈ gtb := gtb_mem 178 (by decide +kernel) rfl
theorem kw_129 : (Jvm.Cond.methodLink "ManyHands$Hand" (20 : Nat) ({ cls := "java/util/ArrayList", name := "<init>", desc := "()V" } : Jvm.MethodName)) ∈ gtb := gtb_mem 179 (by decide +kernel) rfl
theorem kw_130 : (Jvm.Cond.classLink "ManyHands$Hand" (32 : Nat) "ManyHands$LeafRow") ∈ gtb := gtb_mem 180 (by decide +kernel) rfl
theorem kw_131 : (Jvm.Cond.instantiable "ManyHands$LeafRow" (3 : Nat)) ∈ gtb := gtb_mem 181 (by decide +kernel) rfl
theorem kw_133 : (Jvm.Cond.instanceMethod ({ cls := "ManyHands$LeafRow", name := "<init>", desc := "()V" } : Jvm.MethodName)) ∈ gtb := gtb_mem 183 (by decide +kernel) rfl
set_option maxRecDepth 20000 in
theorem kw_134 : (Jvm.Cond.code ({ cls := "ManyHands$LeafRow", name := "<init>", desc := "()V" } : Jvm.MethodName) prog_4_method_1_code (1 : Nat) (Option.none : Option Jvm.ClassFile.FieldType)) ∈ gtb := gtb_mem 184 (by exact rfl) rfl
theorem kw_135 : (Jvm.Cond.methodLink "ManyHands$LeafRow" (3 : Nat) ({ cls := "java/lang/Object", name := "<init>", desc := "()V" } : Jvm.MethodName)) ∈ gtb := gtb_mem 185 (by decide +kernel) rfl
theorem kw_136 : (Jvm.Cond.fieldLink "ManyHands$LeafRow" (9 : Nat) "ManyHands$LeafRow" "numbers" "[J") ∈ gtb := gtb_mem 186 (by decide +kernel) rfl
theorem kw_137 : (Jvm.Cond.fieldLink "ManyHands" (251 : Nat) "ManyHands$LeafRow" "numbers" "[J") ∈ gtb := gtb_mem 187 (by decide +kernel) rfl
theorem kw_138 : (Jvm.Cond.fieldLink "ManyHands$LeafRow" (15 : Nat) "ManyHands$LeafRow" "marks" "[I") ∈ gtb := gtb_mem 188 (by decide +kernel) rfl
theorem kw_139 : (Jvm.Cond.fieldLink "ManyHands$LeafRow" (19 : Nat) "ManyHands$LeafRow" "size" "I") ∈ gtb := gtb_mem 189 (by decide +kernel) rfl
theorem kw_140 : (Jvm.Cond.laysFinal "ManyHands$LeafRow" "ManyHands$LeafRow" "numbers" "[J") ∈ gtb := gtb_mem 190 (by decide +kernel) rfl
theorem kw_142 : (Jvm.Cond.laysFinal "ManyHands$LeafRow" "ManyHands$LeafRow" "marks" "[I") ∈ gtb := gtb_mem 192 (by decide +kernel) rfl
theorem kw_144 : (Jvm.Cond.lays "ManyHands$LeafRow" "ManyHands$LeafRow" "size" "I") ∈ gtb := gtb_mem 194 (by decide +kernel) rfl
theorem kw_147 : (Jvm.Cond.arrayClass Jvm.ClassFile.FieldType.boolean) ∈ gtb := gtb_mem 197 (by decide +kernel) rfl
theorem kw_148 : (Jvm.Cond.fieldLink "ManyHands$Entry" (22 : Nat) "ManyHands$Hand" "number" "I") ∈ gtb := gtb_mem 198 (by decide +kernel) rfl
theorem kw_149 : (Jvm.Cond.fieldLink "ManyHands$Hand" (39 : Nat) "ManyHands$Hand" "number" "I") ∈ gtb := gtb_mem 199 (by decide +kernel) rfl
theorem kw_150 : (Jvm.Cond.fieldLink "ManyHands" (288 : Nat) "ManyHands$Hand" "number" "I") ∈ gtb := gtb_mem 200 (by decide +kernel) rfl
theorem kw_151 : (Jvm.Cond.fieldLink "ManyHands$Hand" (12 : Nat) "ManyHands$Hand" "reach" "LManyHands$Reach;") ∈ gtb := gtb_mem 201 (by decide +kernel) rfl
theorem kw_152 : (Jvm.Cond.fieldLink "ManyHands$Entry" (63 : Nat) "ManyHands$Hand" "reach" "LManyHands$Reach;") ∈ gtb := gtb_mem 202 (by decide +kernel) rfl
theorem kw_153 : (Jvm.Cond.fieldLink "ManyHands" (107 : Nat) "ManyHands$Hand" "reach" "LManyHands$Reach;") ∈ gtb := gtb_mem 203 (by decide +kernel) rfl
theorem kw_154 : (Jvm.Cond.fieldLink "ManyHands$Hand" (21 : Nat) "ManyHands$Hand" "own" "Ljava/util/ArrayList;") ∈ gtb := gtb_mem 204 (by decide +kernel) rfl
theorem kw_155 : (Jvm.Cond.fieldLink "ManyHands$Entry" (50 : Nat) "ManyHands$Hand" "own" "Ljava/util/ArrayList;") ∈ gtb := gtb_mem 205 (by decide +kernel) rfl
theorem kw_156 : (Jvm.Cond.fieldLink "ManyHands" (300 : Nat) "ManyHands$Hand" "own" "Ljava/util/ArrayList;") ∈ gtb := gtb_mem 206 (by decide +kernel) rfl
theorem kw_157 : (Jvm.Cond.fieldLink "ManyHands$Hand" (25 : Nat) "ManyHands$Hand" "waiting" "Ljava/util/ArrayList;") ∈ gtb := gtb_mem 207 (by decide +kernel) rfl
theorem kw_158 : (Jvm.Cond.fieldLink "ManyHands$Hand" (28 : Nat) "ManyHands$Hand" "ignored" "[Z") ∈ gtb := gtb_mem 208 (by decide +kernel) rfl
theorem kw_159 : (Jvm.Cond.fieldLink "ManyHands" (78 : Nat) "ManyHands$Hand" "ignored" "[Z") ∈ gtb := gtb_mem 209 (by decide +kernel) rfl
theorem kw_160 : (Jvm.Cond.fieldLink "ManyHands$Hand" (35 : Nat) "ManyHands$Hand" "row" "LManyHands$LeafRow;") ∈ gtb := gtb_mem 210 (by decide +kernel) rfl
theorem kw_161 : (Jvm.Cond.fieldLink "ManyHands" (224 : Nat) "ManyHands$Hand" "row" "LManyHands$LeafRow;") ∈ gtb := gtb_mem 211 (by decide +kernel) rfl
theorem kw_162 : (Jvm.Cond.fieldLink "ManyHands$Entry" (44 : Nat) "ManyHands$Hand" "greatestCount" "I") ∈ gtb := gtb_mem 212 (by decide +kernel) rfl
theorem kw_163 : (Jvm.Cond.fieldLink "ManyHands$Hand" (63 : Nat) "ManyHands$Hand" "greatestCount" "I") ∈ gtb := gtb_mem 213 (by decide +kernel) rfl
theorem kw_164 : (Jvm.Cond.laysFinal "ManyHands$Hand" "ManyHands$Hand" "number" "I") ∈ gtb := gtb_mem 214 (by decide +kernel) rfl
theorem kw_166 : (Jvm.Cond.laysFinal "ManyHands$Hand" "ManyHands$Hand" "reach" "LManyHands$Reach;") ∈ gtb := gtb_mem 216 (by decide +kernel) rfl
theorem kw_168 : (Jvm.Cond.laysFinal "ManyHands$Hand" "ManyHands$Hand" "own" "Ljava/util/ArrayList;") ∈ gtb := gtb_mem 218 (by decide +kernel) rfl
theorem kw_170 : (Jvm.Cond.laysFinal "ManyHands$Hand" "ManyHands$Hand" "waiting" "Ljava/util/ArrayList;") ∈ gtb := gtb_mem 220 (by decide +kernel) rfl
theorem kw_172 : (Jvm.Cond.laysFinal "ManyHands$Hand" "ManyHands$Hand" "ignored" "[Z") ∈ gtb := gtb_mem 222 (by decide +kernel) rfl
theorem kw_174 : (Jvm.Cond.laysFinal "ManyHands$Hand" "ManyHands$Hand" "row" "LManyHands$LeafRow;") ∈ gtb := gtb_mem 224 (by decide +kernel) rfl
theorem kw_176 : (Jvm.Cond.lays "ManyHands$Hand" "ManyHands$Hand" "greatestCount" "I") ∈ gtb := gtb_mem 226 (by decide +kernel) rfl
theorem kw_179 : (Jvm.Cond.methodLink "ManyHandsLaw" (18 : Nat) ({ cls := "ManyHands", name := "page", desc := "(I)I" } : Jvm.MethodName)) ∈ gtb := gtb_mem 229 (by decide +kernel) rfl
theorem kw_180 : (Jvm.Cond.instanceMethod ({ cls := "ManyHands", name := "page", desc := "(I)I" } : Jvm.MethodName)) ∈ gtb := gtb_mem 230 (by decide +kernel) rfl
theorem kw_181 : (Jvm.Cond.selects "ManyHands" ({ cls := "ManyHands", name := "page", desc := "(I)I" } : Jvm.MethodName) ({ cls := "ManyHands", name := "page", desc := "(I)I" } : Jvm.MethodName)) ∈ gtb := gtb_mem 231 (by decide +kernel) rfl
set_option maxRecDepth 20000 in
theorem kw_182 : (Jvm.Cond.code ({ cls := "ManyHands", name := "page", desc := "(I)I" } : Jvm.MethodName) prog_1_method_3_code (2 : Nat) (Option.some Jvm.ClassFile.FieldType.int)) ∈ gtb := gtb_mem 232 (by exact rfl) rfl
theorem kw_183 : (Jvm.Cond.methodLink "ManyHands" (53 : Nat) ({ cls := "ManyHands", name := "isKind", desc := "(I)Z" } : Jvm.MethodName)) ∈ gtb := gtb_mem 233 (by decide +kernel) rfl
theorem kw_184 : (Jvm.Cond.static ({ cls := "ManyHands", name := "isKind", desc := "(I)Z" } : Jvm.MethodName)) ∈ gtb := gtb_mem 234 (by decide +kernel) rfl
set_option maxRecDepth 20000 in
theorem kw_185 : (Jvm.Cond.code ({ cls := "ManyHands", name := "isKind", desc := "(I)Z" } : Jvm.MethodName) prog_1_method_44_code (1 : Nat) (Option.some Jvm.ClassFile.FieldType.boolean)) ∈ gtb := gtb_mem 235 (by exact rfl) rfl
theorem kw_186 : (Jvm.Cond.instantiable "ManyHands$Page" (4 : Nat)) ∈ gtb := gtb_mem 236 (by decide +kernel) rfl
theorem kw_187 : (Jvm.Cond.methodLink "ManyHands" (60 : Nat) ({ cls := "ManyHands$Page", name := "<init>", desc := "(II)V" } : Jvm.MethodName)) ∈ gtb := gtb_mem 237 (by decide +kernel) rfl
theorem kw_188 : (Jvm.Cond.instanceMethod ({ cls := "ManyHands$Page", name := "<init>", desc := "(II)V" } : Jvm.MethodName)) ∈ gtb := gtb_mem 238 (by decide +kernel) rfl
set_option maxRecDepth 20000 in
theorem kw_189 : (Jvm.Cond.code ({ cls := "ManyHands$Page", name := "<init>", desc := "(II)V" } : Jvm.MethodName) prog_5_method_1_code (3 : Nat) (Option.none : Option Jvm.ClassFile.FieldType)) ∈ gtb := gtb_mem 239 (by exact rfl) rfl
theorem kw_190 : (Jvm.Cond.methodLink "ManyHands$Page" (3 : Nat) ({ cls := "java/lang/Object", name := "<init>", desc := "()V" } : Jvm.MethodName)) ∈ gtb := gtb_mem 240 (by decide +kernel) rfl
theorem kw_191 : (Jvm.Cond.classLink "ManyHands$Page" (9 : Nat) "ManyHands$Reach") ∈ gtb := gtb_mem 241 (by decide +kernel) rfl
theorem kw_193 : (Jvm.Cond.classLink "ManyHands$Page" (25 : Nat) "ManyHands$Entry") ∈ gtb := gtb_mem 243 (by decide +kernel) rfl
theorem kw_195 : (Jvm.Cond.fieldLink "ManyHands$Page" (18 : Nat) "ManyHands$Page" "number" "I") ∈ gtb := gtb_mem 245 (by decide +kernel) rfl
theorem kw_196 : (Jvm.Cond.fieldLink "ManyHands$Entry" (28 : Nat) "ManyHands$Page" "number" "I") ∈ gtb := gtb_mem 246 (by decide +kernel) rfl
theorem kw_197 : (Jvm.Cond.fieldLink "ManyHands" (82 : Nat) "ManyHands$Page" "number" "I") ∈ gtb := gtb_mem 247 (by decide +kernel) rfl
theorem kw_198 : (Jvm.Cond.fieldLink "ManyHands$Page" (22 : Nat) "ManyHands$Page" "kind" "I") ∈ gtb := gtb_mem 248 (by decide +kernel) rfl
theorem kw_199 : (Jvm.Cond.fieldLink "ManyHands" (93 : Nat) "ManyHands$Page" "kind" "I") ∈ gtb := gtb_mem 249 (by decide +kernel) rfl
theorem kw_200 : (Jvm.Cond.fieldLink "ManyHands$Page" (27 : Nat) "ManyHands$Page" "latest" "[LManyHands$Entry;") ∈ gtb := gtb_mem 250 (by decide +kernel) rfl
theorem kw_201 : (Jvm.Cond.fieldLink "ManyHands$Entry" (70 : Nat) "ManyHands$Page" "latest" "[LManyHands$Entry;") ∈ gtb := gtb_mem 251 (by decide +kernel) rfl
theorem kw_202 : (Jvm.Cond.fieldLink "ManyHands$Page" (12 : Nat) "ManyHands$Page" "known" "LManyHands$Reach;") ∈ gtb := gtb_mem 252 (by decide +kernel) rfl
theorem kw_203 : (Jvm.Cond.laysFinal "ManyHands$Page" "ManyHands$Page" "number" "I") ∈ gtb := gtb_mem 253 (by decide +kernel) rfl
theorem kw_205 : (Jvm.Cond.laysFinal "ManyHands$Page" "ManyHands$Page" "kind" "I") ∈ gtb := gtb_mem 255 (by decide +kernel) rfl
theorem kw_207 : (Jvm.Cond.laysFinal "ManyHands$Page" "ManyHands$Page" "latest" "[LManyHands$Entry;") ∈ gtb := gtb_mem 257 (by decide +kernel) rfl
theorem kw_209 : (Jvm.Cond.laysFinal "ManyHands$Page" "ManyHands$Page" "known" "LManyHands$Reach;") ∈ gtb := gtb_mem 259 (by decide +kernel) rfl
theorem kw_212 : (Jvm.Cond.methodLink "ManyHandsLaw" (23 : Nat) ({ cls := "ManyHands", name := "is", desc := "(II)I" } : Jvm.MethodName)) ∈ gtb := gtb_mem 262 (by decide +kernel) rfl
theorem kw_213 : (Jvm.Cond.instanceMethod ({ cls := "ManyHands", name := "is", desc := "(II)I" } : Jvm.MethodName)) ∈ gtb := gtb_mem 263 (by decide +kernel) rfl
theorem kw_214 : (Jvm.Cond.selects "ManyHands" ({ cls := "ManyHands", name := "is", desc := "(II)I" } : Jvm.MethodName) ({ cls := "ManyHands", name := "is", desc := "(II)I" } : Jvm.MethodName)) ∈ gtb := gtb_mem 264 (by decide +kernel) rfl
set_option maxRecDepth 20000 in
theorem kw_215 : (Jvm.Cond.code ({ cls := "ManyHands", name := "is", desc := "(II)I" } : Jvm.MethodName) prog_1_method_4_code (4 : Nat) (Option.some Jvm.ClassFile.FieldType.int)) ∈ gtb := gtb_mem 265 (by exact rfl) rfl
theorem kw_216 : (Jvm.Cond.methodLink "ManyHands" (63 : Nat) ({ cls := "ManyHands", name := "pageAt", desc := "(I)LManyHands$Page;" } : Jvm.MethodName)) ∈ gtb := gtb_mem 266 (by decide +kernel) rfl
theorem kw_218 : (Jvm.Cond.instanceMethod ({ cls := "ManyHands", name := "pageAt", desc := "(I)LManyHands$Page;" } : Jvm.MethodName)) ∈ gtb := gtb_mem 268 (by decide +kernel) rfl
set_option maxRecDepth 20000 in
theorem kw_219 : (Jvm.Cond.code ({ cls := "ManyHands", name := "pageAt", desc := "(I)LManyHands$Page;" } : Jvm.MethodName) prog_1_method_42_code (2 : Nat) (Option.some (Jvm.ClassFile.FieldType.object "ManyHands$Page"))) ∈ gtb := gtb_mem 269 (by exact rfl) rfl
theorem kw_220 : (Jvm.Cond.methodLink "ManyHands" (67 : Nat) ({ cls := "ManyHands$Page", name := "isUnder", desc := "(I)Z" } : Jvm.MethodName)) ∈ gtb := gtb_mem 270 (by decide +kernel) rfl
theorem kw_221 : (Jvm.Cond.instanceMethod ({ cls := "ManyHands$Page", name := "isUnder", desc := "(I)Z" } : Jvm.MethodName)) ∈ gtb := gtb_mem 271 (by decide +kernel) rfl
theorem kw_222 : (Jvm.Cond.selects "ManyHands$Page" ({ cls := "ManyHands$Page", name := "isUnder", desc := "(I)Z" } : Jvm.MethodName) ({ cls := "ManyHands$Page", name := "isUnder", desc := "(I)Z" } : Jvm.MethodName)) ∈ gtb := gtb_mem 272 (by decide +kernel) rfl
set_option maxRecDepth 20000 in
theorem kw_223 : (Jvm.Cond.code ({ cls := "ManyHands$Page", name := "isUnder", desc := "(I)Z" } : Jvm.MethodName) prog_5_method_2_code (2 : Nat) (Option.some Jvm.ClassFile.FieldType.boolean)) ∈ gtb := gtb_mem 273 (by exact rfl) rfl
theorem kw_226 : (Jvm.Cond.methodLink "ManyHands" (70 : Nat) ({ cls := "ManyHands", name := "oneIf", desc := "(Z)I" } : Jvm.MethodName)) ∈ gtb := gtb_mem 276 (by decide +kernel) rfl
theorem kw_227 : (Jvm.Cond.static ({ cls := "ManyHands", name := "oneIf", desc := "(Z)I" } : Jvm.MethodName)) ∈ gtb := gtb_mem 277 (by decide +kernel) rfl
set_option maxRecDepth 20000 in
theorem kw_228 : (Jvm.Cond.code ({ cls := "ManyHands", name := "oneIf", desc := "(Z)I" } : Jvm.MethodName) prog_1_method_47_code (1 : Nat) (Option.some Jvm.ClassFile.FieldType.int)) ∈ gtb := gtb_mem 278 (by exact rfl) rfl
theorem kw_229 : (Jvm.Cond.methodLink "ManyHandsLaw" (28 : Nat) ({ cls := "ManyHands", name := "keep", desc := "(IIZ)I" } : Jvm.MethodName)) ∈ gtb := gtb_mem 279 (by decide +kernel) rfl
theorem kw_230 : (Jvm.Cond.instanceMethod ({ cls := "ManyHands", name := "keep", desc := "(IIZ)I" } : Jvm.MethodName)) ∈ gtb := gtb_mem 280 (by decide +kernel) rfl
theorem kw_231 : (Jvm.Cond.selects "ManyHands" ({ cls := "ManyHands", name := "keep", desc := "(IIZ)I" } : Jvm.MethodName) ({ cls := "ManyHands", name := "keep", desc := "(IIZ)I" } : Jvm.MethodName)) ∈ gtb := gtb_mem 281 (by decide +kernel) rfl
set_option maxRecDepth 20000 in
theorem kw_232 : (Jvm.Cond.code ({ cls := "ManyHands", name := "keep", desc := "(IIZ)I" } : Jvm.MethodName) prog_1_method_5_code (7 : Nat) (Option.some Jvm.ClassFile.FieldType.int)) ∈ gtb := gtb_mem 282 (by exact rfl) rfl
theorem kw_233 : (Jvm.Cond.methodLink "ManyHands" (74 : Nat) ({ cls := "ManyHands", name := "handAt", desc := "(I)LManyHands$Hand;" } : Jvm.MethodName)) ∈ gtb := gtb_mem 283 (by decide +kernel) rfl
theorem kw_235 : (Jvm.Cond.instanceMethod ({ cls := "ManyHands", name := "handAt", desc := "(I)LManyHands$Hand;" } : Jvm.MethodName)) ∈ gtb := gtb_mem 285 (by decide +kernel) rfl
set_option maxRecDepth 20000 in
theorem kw_236 : (Jvm.Cond.code ({ cls := "ManyHands", name := "handAt", desc := "(I)LManyHands$Hand;" } : Jvm.MethodName) prog_1_method_41_code (2 : Nat) (Option.some (Jvm.ClassFile.FieldType.object "ManyHands$Hand"))) ∈ gtb := gtb_mem 286 (by exact rfl) rfl
theorem kw_237 : (Jvm.Cond.methodLink "ManyHandsLaw" (35 : Nat) ({ cls := "ManyHands", name := "write", desc := "(IIJ)I" } : Jvm.MethodName)) ∈ gtb := gtb_mem 287 (by decide +kernel) rfl
theorem kw_238 : (Jvm.Cond.instanceMethod ({ cls := "ManyHands", name := "write", desc := "(IIJ)I" } : Jvm.MethodName)) ∈ gtb := gtb_mem 288 (by decide +kernel) rfl
theorem kw_239 : (Jvm.Cond.selects "ManyHands" ({ cls := "ManyHands", name := "write", desc := "(IIJ)I" } : Jvm.MethodName) ({ cls := "ManyHands", name := "write", desc := "(IIJ)I" } : Jvm.MethodName)) ∈ gtb := gtb_mem 289 (by decide +kernel) rfl
set_option maxRecDepth 20000 in
theorem kw_240 : (Jvm.Cond.code ({ cls := "ManyHands", name := "write", desc := "(IIJ)I" } : Jvm.MethodName) prog_1_method_6_code (8 : Nat) (Option.some Jvm.ClassFile.FieldType.int)) ∈ gtb := gtb_mem 290 (by exact rfl) rfl
theorem kw_241 : (Jvm.Cond.methodLink "ManyHands" (85 : Nat) ({ cls := "ManyHands", name := "refusalToChange", desc := "(LManyHands$Hand;LManyHands$Page;I)I" } : Jvm.MethodName)) ∈ gtb := gtb_mem 291 (by decide +kernel) rfl
theorem kw_243 : (Jvm.Cond.instanceMethod ({ cls := "ManyHands", name := "refusalToChange", desc := "(LManyHands$Hand;LManyHands$Page;I)I" } : Jvm.MethodName)) ∈ gtb := gtb_mem 293 (by decide +kernel) rfl
set_option maxRecDepth 20000 in
theorem kw_244 : (Jvm.Cond.code ({ cls := "ManyHands", name := "refusalToChange", desc := "(LManyHands$Hand;LManyHands$Page;I)I" } : Jvm.MethodName) prog_1_method_52_code (4 : Nat) (Option.some Jvm.ClassFile.FieldType.int)) ∈ gtb := gtb_mem 294 (by exact rfl) rfl
theorem kw_245 : (Jvm.Cond.methodLink "ManyHands" (259 : Nat) ({ cls := "java/util/ArrayList", name := "size", desc := "()I" } : Jvm.MethodName)) ∈ gtb := gtb_mem 295 (by decide +kernel) rfl
theorem kw_246 : (Jvm.Cond.instanceMethod ({ cls := "java/util/ArrayList", name := "size", desc := "()I" } : Jvm.MethodName)) ∈ gtb := gtb_mem 296 (by decide +kernel) rfl
theorem kw_247 : (Jvm.Cond.selects "java/util/ArrayList" ({ cls := "java/util/ArrayList", name := "size", desc := "()I" } : Jvm.MethodName) ({ cls := "java/util/ArrayList", name := "size", desc := "()I" } : Jvm.MethodName)) ∈ gtb := gtb_mem 297 (by decide +kernel) rfl
set_option maxRecDepth 20000 in
theorem kw_248 : (Jvm.Cond.code ({ cls := "java/util/ArrayList", name := "size", desc := "()I" } : Jvm.MethodName) prog_17_method_8_code (1 : Nat) (Option.some Jvm.ClassFile.FieldType.int)) ∈ gtb := gtb_mem 298 (by exact rfl) rfl
theorem kw_249 : (Jvm.Cond.methodLink "ManyHands" (282 : Nat) ({ cls := "ManyHands$Hand", name := "hasAllOwn", desc := "()Z" } : Jvm.MethodName)) ∈ gtb := gtb_mem 299 (by decide +kernel) rfl
theorem kw_250 : (Jvm.Cond.instanceMethod ({ cls := "ManyHands$Hand", name := "hasAllOwn", desc := "()Z" } : Jvm.MethodName)) ∈ gtb := gtb_mem 300 (by decide +kernel) rfl
theorem kw_251 : (Jvm.Cond.selects "ManyHands$Hand" ({ cls := "ManyHands$Hand", name := "hasAllOwn", desc := "()Z" } : Jvm.MethodName) ({ cls := "ManyHands$Hand", name := "hasAllOwn", desc := "()Z" } : Jvm.MethodName)) ∈ gtb := gtb_mem 301 (by decide +kernel) rfl
set_option maxRecDepth 20000 in
theorem kw_252 : (Jvm.Cond.code ({ cls := "ManyHands$Hand", name := "hasAllOwn", desc := "()Z" } : Jvm.MethodName) prog_3_method_2_code (1 : Nat) (Option.some Jvm.ClassFile.FieldType.boolean)) ∈ gtb := gtb_mem 302 (by exact rfl) rfl
theorem kw_253 : (Jvm.Cond.methodLink "ManyHands$Hand" (47 : Nat) ({ cls := "java/util/ArrayList", name := "size", desc := "()I" } : Jvm.MethodName)) ∈ gtb := gtb_mem 303 (by decide +kernel) rfl
theorem kw_254 : (Jvm.Cond.methodLink "ManyHands" (176 : Nat) ({ cls := "ManyHands", name := "refusalToSee", desc := "(LManyHands$Hand;LManyHands$Page;I)I" } : Jvm.MethodName)) ∈ gtb := gtb_mem 304 (by decide +kernel) rfl
theorem kw_256 : (Jvm.Cond.instanceMethod ({ cls := "ManyHands", name := "refusalToSee", desc := "(LManyHands$Hand;LManyHands$Page;I)I" } : Jvm.MethodName)) ∈ gtb := gtb_mem 306 (by decide +kernel) rfl
set_option maxRecDepth 20000 in
theorem kw_257 : (Jvm.Cond.code ({ cls := "ManyHands", name := "refusalToSee", desc := "(LManyHands$Hand;LManyHands$Page;I)I" } : Jvm.MethodName) prog_1_method_51_code (4 : Nat) (Option.some Jvm.ClassFile.FieldType.int)) ∈ gtb := gtb_mem 307 (by exact rfl) rfl
theorem kw_258 : (Jvm.Cond.methodLink "ManyHands" (100 : Nat) ({ cls := "ManyHands", name := "found", desc := "(I)I" } : Jvm.MethodName)) ∈ gtb := gtb_mem 308 (by decide +kernel) rfl
theorem kw_260 : (Jvm.Cond.instanceMethod ({ cls := "ManyHands", name := "found", desc := "(I)I" } : Jvm.MethodName)) ∈ gtb := gtb_mem 310 (by decide +kernel) rfl
set_option maxRecDepth 20000 in
theorem kw_261 : (Jvm.Cond.code ({ cls := "ManyHands", name := "found", desc := "(I)I" } : Jvm.MethodName) prog_1_method_49_code (2 : Nat) (Option.some Jvm.ClassFile.FieldType.int)) ∈ gtb := gtb_mem 311 (by exact rfl) rfl
theorem kw_262 : (Jvm.Cond.methodLink "ManyHands" (89 : Nat) ({ cls := "ManyHands", name := "make", desc := "(LManyHands$Hand;LManyHands$Page;IIJ)I" } : Jvm.MethodName)) ∈ gtb := gtb_mem 312 (by decide +kernel) rfl
theorem kw_264 : (Jvm.Cond.instanceMethod ({ cls := "ManyHands", name := "make", desc := "(LManyHands$Hand;LManyHands$Page;IIJ)I" } : Jvm.MethodName)) ∈ gtb := gtb_mem 314 (by decide +kernel) rfl
set_option maxRecDepth 20000 in
theorem kw_265 : (Jvm.Cond.code ({ cls := "ManyHands", name := "make", desc := "(LManyHands$Hand;LManyHands$Page;IIJ)I" } : Jvm.MethodName) prog_1_method_55_code (8 : Nat) (Option.some Jvm.ClassFile.FieldType.int)) ∈ gtb := gtb_mem 315 (by exact rfl) rfl
theorem kw_266 : (Jvm.Cond.classLink "ManyHands" (123 : Nat) "ManyHands$Entry") ∈ gtb := gtb_mem 316 (by decide +kernel) rfl
theorem kw_267 : (Jvm.Cond.instantiable "ManyHands$Entry" (10 : Nat)) ∈ gtb := gtb_mem 317 (by decide +kernel) rfl
theorem kw_268 : (Jvm.Cond.methodLink "ManyHands" (289 : Nat) ({ cls := "ManyHands$Entry", name := "<init>", desc := "(ILManyHands$Hand;LManyHands$Page;IIJ)V" } : Jvm.MethodName)) ∈ gtb := gtb_mem 318 (by decide +kernel) rfl
theorem kw_269 : (Jvm.Cond.instanceMethod ({ cls := "ManyHands$Entry", name := "<init>", desc := "(ILManyHands$Hand;LManyHands$Page;IIJ)V" } : Jvm.MethodName)) ∈ gtb := gtb_mem 319 (by decide +kernel) rfl
set_option maxRecDepth 20000 in
theorem kw_270 : (Jvm.Cond.code ({ cls := "ManyHands$Entry", name := "<init>", desc := "(ILManyHands$Hand;LManyHands$Page;IIJ)V" } : Jvm.MethodName) prog_2_method_1_code (8 : Nat) (Option.none : Option Jvm.ClassFile.FieldType)) ∈ gtb := gtb_mem 320 (by exact rfl) rfl
theorem kw_271 : (Jvm.Cond.methodLink "ManyHands$Entry" (3 : Nat) ({ cls := "java/lang/Object", name := "<init>", desc := "()V" } : Jvm.MethodName)) ∈ gtb := gtb_mem 321 (by decide +kernel) rfl
theorem kw_272 : (Jvm.Cond.classLink "ManyHands$Entry" (9 : Nat) "ManyHands$Reach") ∈ gtb := gtb_mem 322 (by decide +kernel) rfl
theorem kw_274 : (Jvm.Cond.methodLink "ManyHands$Entry" (54 : Nat) ({ cls := "java/util/ArrayList", name := "size", desc := "()I" } : Jvm.MethodName)) ∈ gtb := gtb_mem 324 (by decide +kernel) rfl
theorem kw_275 : (Jvm.Cond.methodLink "ManyHands$Entry" (66 : Nat) ({ cls := "ManyHands$Reach", name := "widen", desc := "(LManyHands$Reach;)V" } : Jvm.MethodName)) ∈ gtb := gtb_mem 325 (by decide +kernel) rfl
theorem kw_276 : (Jvm.Cond.instanceMethod ({ cls := "ManyHands$Reach", name := "widen", desc := "(LManyHands$Reach;)V" } : Jvm.MethodName)) ∈ gtb := gtb_mem 326 (by decide +kernel) rfl
theorem kw_277 : (Jvm.Cond.selects "ManyHands$Reach" ({ cls := "ManyHands$Reach", name := "widen", desc := "(LManyHands$Reach;)V" } : Jvm.MethodName) ({ cls := "ManyHands$Reach", name := "widen", desc := "(LManyHands$Reach;)V" } : Jvm.MethodName)) ∈ gtb := gtb_mem 327 (by decide +kernel) rfl
set_option maxRecDepth 20000 in
theorem kw_278 : (Jvm.Cond.code ({ cls := "ManyHands$Reach", name := "widen", desc := "(LManyHands$Reach;)V" } : Jvm.MethodName) prog_6_method_4_code (3 : Nat) (Option.none : Option Jvm.ClassFile.FieldType)) ∈ gtb := gtb_mem 328 (by exact rfl) rfl
theorem kw_279 : (Jvm.Cond.methodLink "ManyHands$Entry" (74 : Nat) ({ cls := "ManyHands$Page", name := "shelfOf", desc := "(I)I" } : Jvm.MethodName)) ∈ gtb := gtb_mem 329 (by decide +kernel) rfl
theorem kw_280 : (Jvm.Cond.instanceMethod ({ cls := "ManyHands$Page", name := "shelfOf", desc := "(I)I" } : Jvm.MethodName)) ∈ gtb := gtb_mem 330 (by decide +kernel) rfl
theorem kw_281 : (Jvm.Cond.selects "ManyHands$Page" ({ cls := "ManyHands$Page", name := "shelfOf", desc := "(I)I" } : Jvm.MethodName) ({ cls := "ManyHands$Page", name := "shelfOf", desc := "(I)I" } : Jvm.MethodName)) ∈ gtb := gtb_mem 331 (by decide +kernel) rfl
set_option maxRecDepth 20000 in
theorem kw_282 : (Jvm.Cond.code ({ cls := "ManyHands$Page", name := "shelfOf", desc := "(I)I" } : Jvm.MethodName) prog_5_method_3_code (2 : Nat) (Option.some Jvm.ClassFile.FieldType.int)) ∈ gtb := gtb_mem 332 (by exact rfl) rfl
theorem kw_283 : (Jvm.Cond.fieldLink "ManyHands$Entry" (18 : Nat) "ManyHands$Entry" "number" "I") ∈ gtb := gtb_mem 333 (by decide +kernel) rfl
theorem kw_284 : (Jvm.Cond.fieldLink "ManyHands$Hand" (75 : Nat) "ManyHands$Entry" "number" "I") ∈ gtb := gtb_mem 334 (by decide +kernel) rfl
theorem kw_285 : (Jvm.Cond.fieldLink "ManyHands$Page" (125 : Nat) "ManyHands$Entry" "number" "I") ∈ gtb := gtb_mem 335 (by decide +kernel) rfl
theorem kw_286 : (Jvm.Cond.fieldLink "ManyHands" (187 : Nat) "ManyHands$Entry" "number" "I") ∈ gtb := gtb_mem 336 (by decide +kernel) rfl
theorem kw_287 : (Jvm.Cond.fieldLink "ManyHands$Entry" (25 : Nat) "ManyHands$Entry" "maker" "I") ∈ gtb := gtb_mem 337 (by decide +kernel) rfl
theorem kw_288 : (Jvm.Cond.fieldLink "ManyHands$Reach" (21 : Nat) "ManyHands$Entry" "maker" "I") ∈ gtb := gtb_mem 338 (by decide +kernel) rfl
theorem kw_289 : (Jvm.Cond.fieldLink "ManyHands$Hand" (57 : Nat) "ManyHands$Entry" "maker" "I") ∈ gtb := gtb_mem 339 (by decide +kernel) rfl
theorem kw_290 : (Jvm.Cond.fieldLink "ManyHands" (122 : Nat) "ManyHands$Entry" "maker" "I") ∈ gtb := gtb_mem 340 (by decide +kernel) rfl
theorem kw_291 : (Jvm.Cond.fieldLink "ManyHands$Entry" (31 : Nat) "ManyHands$Entry" "page" "I") ∈ gtb := gtb_mem 341 (by decide +kernel) rfl
theorem kw_292 : (Jvm.Cond.fieldLink "ManyHands" (127 : Nat) "ManyHands$Entry" "page" "I") ∈ gtb := gtb_mem 342 (by decide +kernel) rfl
theorem kw_293 : (Jvm.Cond.fieldLink "ManyHands$Entry" (34 : Nat) "ManyHands$Entry" "act" "I") ∈ gtb := gtb_mem 343 (by decide +kernel) rfl
theorem kw_294 : (Jvm.Cond.fieldLink "ManyHands$Page" (53 : Nat) "ManyHands$Entry" "act" "I") ∈ gtb := gtb_mem 344 (by decide +kernel) rfl
theorem kw_295 : (Jvm.Cond.fieldLink "ManyHands$Entry" (37 : Nat) "ManyHands$Entry" "x" "I") ∈ gtb := gtb_mem 345 (by decide +kernel) rfl
theorem kw_296 : (Jvm.Cond.fieldLink "ManyHands$Page" (35 : Nat) "ManyHands$Entry" "x" "I") ∈ gtb := gtb_mem 346 (by decide +kernel) rfl
theorem kw_297 : (Jvm.Cond.fieldLink "ManyHands$Entry" (40 : Nat) "ManyHands$Entry" "v" "J") ∈ gtb := gtb_mem 347 (by decide +kernel) rfl
theorem kw_298 : (Jvm.Cond.fieldLink "ManyHands$Page" (126 : Nat) "ManyHands$Entry" "v" "J") ∈ gtb := gtb_mem 348 (by decide +kernel) rfl
theorem kw_299 : (Jvm.Cond.fieldLink "ManyHands" (183 : Nat) "ManyHands$Entry" "v" "J") ∈ gtb := gtb_mem 349 (by decide +kernel) rfl
theorem kw_300 : (Jvm.Cond.fieldLink "ManyHands$Entry" (47 : Nat) "ManyHands$Entry" "stampCount" "I") ∈ gtb := gtb_mem 350 (by decide +kernel) rfl
theorem kw_301 : (Jvm.Cond.fieldLink "ManyHands$Hand" (66 : Nat) "ManyHands$Entry" "stampCount" "I") ∈ gtb := gtb_mem 351 (by decide +kernel) rfl
theorem kw_302 : (Jvm.Cond.fieldLink "ManyHands" (130 : Nat) "ManyHands$Entry" "stampCount" "I") ∈ gtb := gtb_mem 352 (by decide +kernel) rfl
theorem kw_303 : (Jvm.Cond.fieldLink "ManyHands$Entry" (60 : Nat) "ManyHands$Entry" "order" "I") ∈ gtb := gtb_mem 353 (by decide +kernel) rfl
theorem kw_304 : (Jvm.Cond.fieldLink "ManyHands$Reach" (15 : Nat) "ManyHands$Entry" "order" "I") ∈ gtb := gtb_mem 354 (by decide +kernel) rfl
theorem kw_305 : (Jvm.Cond.fieldLink "ManyHands$Hand" (60 : Nat) "ManyHands$Entry" "order" "I") ∈ gtb := gtb_mem 355 (by decide +kernel) rfl
theorem kw_306 : (Jvm.Cond.fieldLink "ManyHands$Entry" (12 : Nat) "ManyHands$Entry" "known" "LManyHands$Reach;") ∈ gtb := gtb_mem 356 (by decide +kernel) rfl
theorem kw_307 : (Jvm.Cond.fieldLink "ManyHands$Hand" (94 : Nat) "ManyHands$Entry" "known" "LManyHands$Reach;") ∈ gtb := gtb_mem 357 (by decide +kernel) rfl
theorem kw_308 : (Jvm.Cond.fieldLink "ManyHands$Page" (67 : Nat) "ManyHands$Entry" "known" "LManyHands$Reach;") ∈ gtb := gtb_mem 358 (by decide +kernel) rfl
theorem kw_309 : (Jvm.Cond.fieldLink "ManyHands" (133 : Nat) "ManyHands$Entry" "known" "LManyHands$Reach;") ∈ gtb := gtb_mem 359 (by decide +kernel) rfl
theorem kw_310 : (Jvm.Cond.fieldLink "ManyHands$Entry" (78 : Nat) "ManyHands$Entry" "earlier" "LManyHands$Entry;") ∈ gtb := gtb_mem 360 (by decide +kernel) rfl
theorem kw_311 : (Jvm.Cond.fieldLink "ManyHands$Page" (49 : Nat) "ManyHands$Entry" "earlier" "LManyHands$Entry;") ∈ gtb := gtb_mem 361 (by decide +kernel) rfl
theorem kw_312 : (Jvm.Cond.laysFinal "ManyHands$Entry" "ManyHands$Entry" "number" "I") ∈ gtb := gtb_mem 362 (by decide +kernel) rfl
theorem kw_314 : (Jvm.Cond.laysFinal "ManyHands$Entry" "ManyHands$Entry" "maker" "I") ∈ gtb := gtb_mem 364 (by decide +kernel) rfl
theorem kw_316 : (Jvm.Cond.laysFinal "ManyHands$Entry" "ManyHands$Entry" "page" "I") ∈ gtb := gtb_mem 366 (by decide +kernel) rfl
theorem kw_318 : (Jvm.Cond.laysFinal "ManyHands$Entry" "ManyHands$Entry" "act" "I") ∈ gtb := gtb_mem 368 (by decide +kernel) rfl
theorem kw_320 : (Jvm.Cond.laysFinal "ManyHands$Entry" "ManyHands$Entry" "x" "I") ∈ gtb := gtb_mem 370 (by decide +kernel) rfl
theorem kw_322 : (Jvm.Cond.laysFinal "ManyHands$Entry" "ManyHands$Entry" "v" "J") ∈ gtb := gtb_mem 372 (by decide +kernel) rfl
theorem kw_324 : (Jvm.Cond.laysFinal "ManyHands$Entry" "ManyHands$Entry" "stampCount" "I") ∈ gtb := gtb_mem 374 (by decide +kernel) rfl
theorem kw_326 : (Jvm.Cond.laysFinal "ManyHands$Entry" "ManyHands$Entry" "order" "I") ∈ gtb := gtb_mem 376 (by decide +kernel) rfl
theorem kw_328 : (Jvm.Cond.laysFinal "ManyHands$Entry" "ManyHands$Entry" "known" "LManyHands$Reach;") ∈ gtb := gtb_mem 378 (by decide +kernel) rfl
theorem kw_330 : (Jvm.Cond.laysFinal "ManyHands$Entry" "ManyHands$Entry" "earlier" "LManyHands$Entry;") ∈ gtb := gtb_mem 380 (by decide +kernel) rfl
theorem kw_333 : (Jvm.Cond.methodLink "ManyHands" (292 : Nat) ({ cls := "java/util/ArrayList", name := "add", desc := "(Ljava/lang/Object;)Z" } : Jvm.MethodName)) ∈ gtb := gtb_mem 383 (by decide +kernel) rfl
theorem kw_334 : (Jvm.Cond.instanceMethod ({ cls := "java/util/ArrayList", name := "add", desc := "(Ljava/lang/Object;)Z" } : Jvm.MethodName)) ∈ gtb := gtb_mem 384 (by decide +kernel) rfl
theorem kw_335 : (Jvm.Cond.selects "java/util/ArrayList" ({ cls := "java/util/ArrayList", name := "add", desc := "(Ljava/lang/Object;)Z" } : Jvm.MethodName) ({ cls := "java/util/ArrayList", name := "add", desc := "(Ljava/lang/Object;)Z" } : Jvm.MethodName)) ∈ gtb := gtb_mem 385 (by decide +kernel) rfl
set_option maxRecDepth 20000 in
theorem kw_336 : (Jvm.Cond.code ({ cls := "java/util/ArrayList", name := "add", desc := "(Ljava/lang/Object;)Z" } : Jvm.MethodName) prog_17_method_25_code (2 : Nat) (Option.some Jvm.ClassFile.FieldType.boolean)) ∈ gtb := gtb_mem 386 (by exact rfl) rfl
theorem kw_337 : (Jvm.Cond.methodLink "java/util/ArrayList" (131 : Nat) ({ cls := "java/util/ArrayList", name := "add", desc := "(Ljava/lang/Object;[Ljava/lang/Object;I)V" } : Jvm.MethodName)) ∈ gtb := gtb_mem 387 (by decide +kernel) rfl
theorem kw_339 : (Jvm.Cond.instanceMethod ({ cls := "java/util/ArrayList", name := "add", desc := "(Ljava/lang/Object;[Ljava/lang/Object;I)V" } : Jvm.MethodName)) ∈ gtb := gtb_mem 389 (by decide +kernel) rfl
set_option maxRecDepth 20000 in
theorem kw_340 : (Jvm.Cond.code ({ cls := "java/util/ArrayList", name := "add", desc := "(Ljava/lang/Object;[Ljava/lang/Object;I)V" } : Jvm.MethodName) prog_17_method_24_code (4 : Nat) (Option.none : Option Jvm.ClassFile.FieldType)) ∈ gtb := gtb_mem 390 (by exact rfl) rfl
theorem kw_341 : (Jvm.Cond.methodLink "java/util/ArrayList" (129 : Nat) ({ cls := "java/util/ArrayList", name := "grow", desc := "()[Ljava/lang/Object;" } : Jvm.MethodName)) ∈ gtb := gtb_mem 391 (by decide +kernel) rfl
theorem kw_343 : (Jvm.Cond.instanceMethod ({ cls := "java/util/ArrayList", name := "grow", desc := "()[Ljava/lang/Object;" } : Jvm.MethodName)) ∈ gtb := gtb_mem 393 (by decide +kernel) rfl
set_option maxRecDepth 20000 in
theorem kw_344 : (Jvm.Cond.code ({ cls := "java/util/ArrayList", name := "grow", desc := "()[Ljava/lang/Object;" } : Jvm.MethodName) prog_17_method_7_code (1 : Nat) (Option.some (Jvm.ClassFile.FieldType.array (Jvm.ClassFile.FieldType.object "java/lang/Object")))) ∈ gtb := gtb_mem 394 (by exact rfl) rfl
theorem kw_345 : (Jvm.Cond.methodLink "java/util/ArrayList" (69 : Nat) ({ cls := "java/util/ArrayList", name := "grow", desc := "(I)[Ljava/lang/Object;" } : Jvm.MethodName)) ∈ gtb := gtb_mem 395 (by decide +kernel) rfl
theorem kw_347 : (Jvm.Cond.instanceMethod ({ cls := "java/util/ArrayList", name := "grow", desc := "(I)[Ljava/lang/Object;" } : Jvm.MethodName)) ∈ gtb := gtb_mem 397 (by decide +kernel) rfl
set_option maxRecDepth 20000 in
theorem kw_348 : (Jvm.Cond.code ({ cls := "java/util/ArrayList", name := "grow", desc := "(I)[Ljava/lang/Object;" } : Jvm.MethodName) prog_17_method_6_code (4 : Nat) (Option.some (Jvm.ClassFile.FieldType.array (Jvm.ClassFile.FieldType.object "java/lang/Object")))) ∈ gtb := gtb_mem 398 (by exact rfl) rfl
theorem kw_349 : (Jvm.Cond.methodLink "java/util/ArrayList" (73 : Nat) ({ cls := "jdk/internal/util/ArraysSupport", name := "newLength", desc := "(III)I" } : Jvm.MethodName)) ∈ gtb := gtb_mem 399 (by decide +kernel) rfl
theorem kw_350 : (Jvm.Cond.static ({ cls := "jdk/internal/util/ArraysSupport", name := "newLength", desc := "(III)I" } : Jvm.MethodName)) ∈ gtb := gtb_mem 400 (by decide +kernel) rfl
set_option maxRecDepth 20000 in
theorem kw_351 : (Jvm.Cond.code ({ cls := "jdk/internal/util/ArraysSupport", name := "newLength", desc := "(III)I" } : Jvm.MethodName) prog_24_method_27_code (4 : Nat) (Option.some Jvm.ClassFile.FieldType.int)) ∈ gtb := gtb_mem 401 (by exact rfl) rfl
theorem kw_352 : (Jvm.Cond.methodLink "jdk/internal/util/ArraysSupport" (194 : Nat) ({ cls := "java/lang/Math", name := "max", desc := "(II)I" } : Jvm.MethodName)) ∈ gtb := gtb_mem 402 (by decide +kernel) rfl
theorem kw_353 : (Jvm.Cond.static ({ cls := "java/lang/Math", name := "max", desc := "(II)I" } : Jvm.MethodName)) ∈ gtb := gtb_mem 403 (by decide +kernel) rfl
set_option maxRecDepth 20000 in
theorem kw_354 : (Jvm.Cond.code ({ cls := "java/lang/Math", name := "max", desc := "(II)I" } : Jvm.MethodName) prog_13_method_65_code (2 : Nat) (Option.some Jvm.ClassFile.FieldType.int)) ∈ gtb := gtb_mem 404 (by exact rfl) rfl
theorem kw_355 : (Jvm.Cond.constant "jdk/internal/util/ArraysSupport" (200 : Nat) (2147483639 : Int32)) ∈ gtb := gtb_mem 405 (by decide +kernel) rfl
theorem kw_356 : (Jvm.Cond.methodLink "jdk/internal/util/ArraysSupport" (201 : Nat) ({ cls := "jdk/internal/util/ArraysSupport", name := "hugeLength", desc := "(II)I" } : Jvm.MethodName)) ∈ gtb := gtb_mem 406 (by decide +kernel) rfl
theorem kw_357 : (Jvm.Cond.static ({ cls := "jdk/internal/util/ArraysSupport", name := "hugeLength", desc := "(II)I" } : Jvm.MethodName)) ∈ gtb := gtb_mem 407 (by decide +kernel) rfl
set_option maxRecDepth 20000 in
theorem kw_358 : (Jvm.Cond.code ({ cls := "jdk/internal/util/ArraysSupport", name := "hugeLength", desc := "(II)I" } : Jvm.MethodName) prog_24_method_28_code (3 : Nat) (Option.some Jvm.ClassFile.FieldType.int)) ∈ gtb := gtb_mem 408 (by exact rfl) rfl
theorem kw_359 : (Jvm.Cond.methodLink "java/util/ArrayList" (66 : Nat) ({ cls := "java/util/Arrays", name := "copyOf", desc := "([Ljava/lang/Object;I)[Ljava/lang/Object;" } : Jvm.MethodName)) ∈ gtb := gtb_mem 409 (by decide +kernel) rfl
theorem kw_360 : (Jvm.Cond.static ({ cls := "java/util/Arrays", name := "copyOf", desc := "([Ljava/lang/Object;I)[Ljava/lang/Object;" } : Jvm.MethodName)) ∈ gtb := gtb_mem 410 (by decide +kernel) rfl
set_option maxRecDepth 20000 in
theorem kw_361 : (Jvm.Cond.code ({ cls := "java/util/Arrays", name := "copyOf", desc := "([Ljava/lang/Object;I)[Ljava/lang/Object;" } : Jvm.MethodName) prog_18_method_119_code (2 : Nat) (Option.some (Jvm.ClassFile.FieldType.array (Jvm.ClassFile.FieldType.object "java/lang/Object")))) ∈ gtb := gtb_mem 411 (by exact rfl) rfl
theorem kw_362 : (Jvm.Cond.methodLink "java/util/Arrays" (86 : Nat) ({ cls := "java/lang/Object", name := "getClass", desc := "()Ljava/lang/Class;" } : Jvm.MethodName)) ∈ gtb := gtb_mem 412 (by decide +kernel) rfl
theorem kw_363 : (Jvm.Cond.instanceMethod ({ cls := "java/lang/Object", name := "getClass", desc := "()Ljava/lang/Class;" } : Jvm.MethodName)) ∈ gtb := gtb_mem 413 (by decide +kernel) rfl
theorem kw_364 : (Jvm.Cond.sameMethod "java/lang/Object" "java/lang/Object" "getClass" "()Ljava/lang/Class;") ∈ gtb := gtb_mem 414 (by decide +kernel) rfl
theorem kw_365 : (Jvm.Cond.selects "ManyHands" ({ cls := "java/lang/Object", name := "getClass", desc := "()Ljava/lang/Class;" } : Jvm.MethodName) ({ cls := "java/lang/Object", name := "getClass", desc := "()Ljava/lang/Class;" } : Jvm.MethodName)) ∈ gtb := gtb_mem 415 (by decide +kernel) rfl
theorem kw_366 : (Jvm.Cond.selects "ManyHands$Entry" ({ cls := "java/lang/Object", name := "getClass", desc := "()Ljava/lang/Class;" } : Jvm.MethodName) ({ cls := "java/lang/Object", name := "getClass", desc := "()Ljava/lang/Class;" } : Jvm.MethodName)) ∈ gtb := gtb_mem 416 (by decide +kernel) rfl
theorem kw_367 : (Jvm.Cond.selects "ManyHands$Hand" ({ cls := "java/lang/Object", name := "getClass", desc := "()Ljava/lang/Class;" } : Jvm.MethodName) ({ cls := "java/lang/Object", name := "getClass", desc := "()Ljava/lang/Class;" } : Jvm.MethodName)) ∈ gtb := gtb_mem 417 (by decide +kernel) rfl
theorem kw_368 : (Jvm.Cond.selects "ManyHands$LeafRow" ({ cls := "java/lang/Object", name := "getClass", desc := "()Ljava/lang/Class;" } : Jvm.MethodName) ({ cls := "java/lang/Object", name := "getClass", desc := "()Ljava/lang/Class;" } : Jvm.MethodName)) ∈ gtb := gtb_mem 418 (by decide +kernel) rfl
theorem kw_369 : (Jvm.Cond.selects "ManyHands$Page" ({ cls := "java/lang/Object", name := "getClass", desc := "()Ljava/lang/Class;" } : Jvm.MethodName) ({ cls := "java/lang/Object", name := "getClass", desc := "()Ljava/lang/Class;" } : Jvm.MethodName)) ∈ gtb := gtb_mem 419 (by decide +kernel) rfl
theorem kw_370 : (Jvm.Cond.selects "ManyHands$Reach" ({ cls := "java/lang/Object", name := "getClass", desc := "()Ljava/lang/Class;" } : Jvm.MethodName) ({ cls := "java/lang/Object", name := "getClass", desc := "()Ljava/lang/Class;" } : Jvm.MethodName)) ∈ gtb := gtb_mem 420 (by decide +kernel) rfl
theorem kw_371 : (Jvm.Cond.selects "ManyHands$Telling" ({ cls := "java/lang/Object", name := "getClass", desc := "()Ljava/lang/Class;" } : Jvm.MethodName) ({ cls := "java/lang/Object", name := "getClass", desc := "()Ljava/lang/Class;" } : Jvm.MethodName)) ∈ gtb := gtb_mem 421 (by decide +kernel) rfl
theorem kw_372 : (Jvm.Cond.selects "ManyHandsModel" ({ cls := "java/lang/Object", name := "getClass", desc := "()Ljava/lang/Class;" } : Jvm.MethodName) ({ cls := "java/lang/Object", name := "getClass", desc := "()Ljava/lang/Class;" } : Jvm.MethodName)) ∈ gtb := gtb_mem 422 (by decide +kernel) rfl
theorem kw_373 : (Jvm.Cond.selects "java/util/ArrayList" ({ cls := "java/lang/Object", name := "getClass", desc := "()Ljava/lang/Class;" } : Jvm.MethodName) ({ cls := "java/lang/Object", name := "getClass", desc := "()Ljava/lang/Class;" } : Jvm.MethodName)) ∈ gtb := gtb_mem 423 (by decide +kernel) rfl
theorem kw_374 : (Jvm.Cond.native ({ cls := "java/lang/Object", name := "getClass", desc := "()Ljava/lang/Class;" } : Jvm.MethodName)) ∈ gtb := gtb_mem 424 (by decide +kernel) rfl
theorem kw_375 : (Jvm.Cond.methodLink "java/util/Arrays" (300 : Nat) ({ cls := "java/util/Arrays", name := "copyOf", desc := "([Ljava/lang/Object;ILjava/lang/Class;)[Ljava/lang/Object;" } : Jvm.MethodName)) ∈ gtb := gtb_mem 425 (by decide +kernel) rfl
theorem kw_376 : (Jvm.Cond.static ({ cls := "java/util/Arrays", name := "copyOf", desc := "([Ljava/lang/Object;ILjava/lang/Class;)[Ljava/lang/Object;" } : Jvm.MethodName)) ∈ gtb := gtb_mem 426 (by decide +kernel) rfl
set_option maxRecDepth 20000 in
theorem kw_377 : (Jvm.Cond.code ({ cls := "java/util/Arrays", name := "copyOf", desc := "([Ljava/lang/Object;ILjava/lang/Class;)[Ljava/lang/Object;" } : Jvm.MethodName) prog_18_method_120_code (4 : Nat) (Option.some (Jvm.ClassFile.FieldType.array (Jvm.ClassFile.FieldType.object "java/lang/Object")))) ∈ gtb := gtb_mem 427 (by exact rfl) rfl
theorem kw_378 : (Jvm.Cond.classLink "java/util/Arrays" (110 : Nat) "[Ljava/lang/Object;") ∈ gtb := gtb_mem 428 (by decide +kernel) rfl
theorem kw_380 : (Jvm.Cond.classLink "java/util/Arrays" (2 : Nat) "java/lang/Object") ∈ gtb := gtb_mem 430 (by decide +kernel) rfl
theorem kw_381 : (Jvm.Cond.methodLink "java/util/Arrays" (304 : Nat) ({ cls := "java/lang/Math", name := "min", desc := "(II)I" } : Jvm.MethodName)) ∈ gtb := gtb_mem 431 (by decide +kernel) rfl
theorem kw_382 : (Jvm.Cond.static ({ cls := "java/lang/Math", name := "min", desc := "(II)I" } : Jvm.MethodName)) ∈ gtb := gtb_mem 432 (by decide +kernel) rfl
set_option maxRecDepth 20000 in
theorem kw_383 : (Jvm.Cond.code ({ cls := "java/lang/Math", name := "min", desc := "(II)I" } : Jvm.MethodName) prog_13_method_69_code (2 : Nat) (Option.some Jvm.ClassFile.FieldType.int)) ∈ gtb := gtb_mem 433 (by exact rfl) rfl
theorem kw_384 : (Jvm.Cond.methodLink "java/util/Arrays" (150 : Nat) ({ cls := "java/lang/System", name := "arraycopy", desc := "(Ljava/lang/Object;ILjava/lang/Object;II)V" } : Jvm.MethodName)) ∈ gtb := gtb_mem 434 (by decide +kernel) rfl
theorem kw_385 : (Jvm.Cond.static ({ cls := "java/lang/System", name := "arraycopy", desc := "(Ljava/lang/Object;ILjava/lang/Object;II)V" } : Jvm.MethodName)) ∈ gtb := gtb_mem 435 (by decide +kernel) rfl
theorem kw_386 : (Jvm.Cond.native ({ cls := "java/lang/System", name := "arraycopy", desc := "(Ljava/lang/Object;ILjava/lang/Object;II)V" } : Jvm.MethodName)) ∈ gtb := gtb_mem 436 (by decide +kernel) rfl
theorem kw_387 : (Jvm.Cond.methodLink "java/util/ArrayList" (79 : Nat) ({ cls := "java/lang/Math", name := "max", desc := "(II)I" } : Jvm.MethodName)) ∈ gtb := gtb_mem 437 (by decide +kernel) rfl
theorem kw_388 : (Jvm.Cond.classLink "java/util/ArrayList" (7 : Nat) "java/lang/Object") ∈ gtb := gtb_mem 438 (by decide +kernel) rfl
theorem kw_389 : (Jvm.Cond.methodLink "ManyHands" (296 : Nat) ({ cls := "ManyHands$Page", name := "append", desc := "(LManyHands$Entry;)V" } : Jvm.MethodName)) ∈ gtb := gtb_mem 439 (by decide +kernel) rfl
theorem kw_390 : (Jvm.Cond.instanceMethod ({ cls := "ManyHands$Page", name := "append", desc := "(LManyHands$Entry;)V" } : Jvm.MethodName)) ∈ gtb := gtb_mem 440 (by decide +kernel) rfl
theorem kw_391 : (Jvm.Cond.selects "ManyHands$Page" ({ cls := "ManyHands$Page", name := "append", desc := "(LManyHands$Entry;)V" } : Jvm.MethodName) ({ cls := "ManyHands$Page", name := "append", desc := "(LManyHands$Entry;)V" } : Jvm.MethodName)) ∈ gtb := gtb_mem 441 (by decide +kernel) rfl
set_option maxRecDepth 20000 in
theorem kw_392 : (Jvm.Cond.code ({ cls := "ManyHands$Page", name := "append", desc := "(LManyHands$Entry;)V" } : Jvm.MethodName) prog_5_method_4_code (2 : Nat) (Option.none : Option Jvm.ClassFile.FieldType)) ∈ gtb := gtb_mem 442 (by exact rfl) rfl
theorem kw_393 : (Jvm.Cond.methodLink "ManyHands$Page" (38 : Nat) ({ cls := "ManyHands$Page", name := "shelfOf", desc := "(I)I" } : Jvm.MethodName)) ∈ gtb := gtb_mem 443 (by decide +kernel) rfl
theorem kw_394 : (Jvm.Cond.methodLink "ManyHands" (303 : Nat) ({ cls := "ManyHands$Hand", name := "include", desc := "(LManyHands$Entry;)V" } : Jvm.MethodName)) ∈ gtb := gtb_mem 444 (by decide +kernel) rfl
theorem kw_395 : (Jvm.Cond.instanceMethod ({ cls := "ManyHands$Hand", name := "include", desc := "(LManyHands$Entry;)V" } : Jvm.MethodName)) ∈ gtb := gtb_mem 445 (by decide +kernel) rfl
theorem kw_396 : (Jvm.Cond.selects "ManyHands$Hand" ({ cls := "ManyHands$Hand", name := "include", desc := "(LManyHands$Entry;)V" } : Jvm.MethodName) ({ cls := "ManyHands$Hand", name := "include", desc := "(LManyHands$Entry;)V" } : Jvm.MethodName)) ∈ gtb := gtb_mem 446 (by decide +kernel) rfl
set_option maxRecDepth 20000 in
theorem kw_397 : (Jvm.Cond.code ({ cls := "ManyHands$Hand", name := "include", desc := "(LManyHands$Entry;)V" } : Jvm.MethodName) prog_3_method_4_code (2 : Nat) (Option.none : Option Jvm.ClassFile.FieldType)) ∈ gtb := gtb_mem 447 (by exact rfl) rfl
theorem kw_398 : (Jvm.Cond.methodLink "ManyHands$Hand" (69 : Nat) ({ cls := "java/lang/Math", name := "max", desc := "(II)I" } : Jvm.MethodName)) ∈ gtb := gtb_mem 448 (by decide +kernel) rfl
theorem kw_399 : (Jvm.Cond.methodLink "ManyHandsLaw" (40 : Nat) ({ cls := "ManyHands", name := "add", desc := "(IIJ)I" } : Jvm.MethodName)) ∈ gtb := gtb_mem 449 (by decide +kernel) rfl
theorem kw_400 : (Jvm.Cond.instanceMethod ({ cls := "ManyHands", name := "add", desc := "(IIJ)I" } : Jvm.MethodName)) ∈ gtb := gtb_mem 450 (by decide +kernel) rfl
theorem kw_401 : (Jvm.Cond.selects "ManyHands" ({ cls := "ManyHands", name := "add", desc := "(IIJ)I" } : Jvm.MethodName) ({ cls := "ManyHands", name := "add", desc := "(IIJ)I" } : Jvm.MethodName)) ∈ gtb := gtb_mem 451 (by decide +kernel) rfl
set_option maxRecDepth 20000 in
theorem kw_402 : (Jvm.Cond.code ({ cls := "ManyHands", name := "add", desc := "(IIJ)I" } : Jvm.MethodName) prog_1_method_7_code (8 : Nat) (Option.some Jvm.ClassFile.FieldType.int)) ∈ gtb := gtb_mem 452 (by exact rfl) rfl
theorem kw_403 : (Jvm.Cond.methodLink "ManyHands" (96 : Nat) ({ cls := "ManyHands", name := "isAmount", desc := "(J)Z" } : Jvm.MethodName)) ∈ gtb := gtb_mem 453 (by decide +kernel) rfl
theorem kw_404 : (Jvm.Cond.static ({ cls := "ManyHands", name := "isAmount", desc := "(J)Z" } : Jvm.MethodName)) ∈ gtb := gtb_mem 454 (by decide +kernel) rfl
set_option maxRecDepth 20000 in
theorem kw_405 : (Jvm.Cond.code ({ cls := "ManyHands", name := "isAmount", desc := "(J)Z" } : Jvm.MethodName) prog_1_method_46_code (2 : Nat) (Option.some Jvm.ClassFile.FieldType.boolean)) ∈ gtb := gtb_mem 455 (by exact rfl) rfl
theorem kw_406 : (Jvm.Cond.constantLong "ManyHands" (278 : Nat) (1000000000 : Int64)) ∈ gtb := gtb_mem 456 (by decide +kernel) rfl
theorem kw_407 : (Jvm.Cond.methodLink "ManyHandsLaw" (44 : Nat) ({ cls := "ManyHands", name := "put", desc := "(III)I" } : Jvm.MethodName)) ∈ gtb := gtb_mem 457 (by decide +kernel) rfl
theorem kw_408 : (Jvm.Cond.instanceMethod ({ cls := "ManyHands", name := "put", desc := "(III)I" } : Jvm.MethodName)) ∈ gtb := gtb_mem 458 (by decide +kernel) rfl
theorem kw_409 : (Jvm.Cond.selects "ManyHands" ({ cls := "ManyHands", name := "put", desc := "(III)I" } : Jvm.MethodName) ({ cls := "ManyHands", name := "put", desc := "(III)I" } : Jvm.MethodName)) ∈ gtb := gtb_mem 459 (by decide +kernel) rfl
set_option maxRecDepth 20000 in
theorem kw_410 : (Jvm.Cond.code ({ cls := "ManyHands", name := "put", desc := "(III)I" } : Jvm.MethodName) prog_1_method_8_code (7 : Nat) (Option.some Jvm.ClassFile.FieldType.int)) ∈ gtb := gtb_mem 460 (by exact rfl) rfl
theorem kw_411 : (Jvm.Cond.methodLink "ManyHands" (104 : Nat) ({ cls := "ManyHands", name := "isThing", desc := "(I)Z" } : Jvm.MethodName)) ∈ gtb := gtb_mem 461 (by decide +kernel) rfl
theorem kw_412 : (Jvm.Cond.static ({ cls := "ManyHands", name := "isThing", desc := "(I)Z" } : Jvm.MethodName)) ∈ gtb := gtb_mem 462 (by decide +kernel) rfl
set_option maxRecDepth 20000 in
theorem kw_413 : (Jvm.Cond.code ({ cls := "ManyHands", name := "isThing", desc := "(I)Z" } : Jvm.MethodName) prog_1_method_45_code (1 : Nat) (Option.some Jvm.ClassFile.FieldType.boolean)) ∈ gtb := gtb_mem 463 (by exact rfl) rfl
theorem kw_414 : (Jvm.Cond.methodLink "ManyHandsLaw" (49 : Nat) ({ cls := "ManyHands", name := "take", desc := "(III)I" } : Jvm.MethodName)) ∈ gtb := gtb_mem 464 (by decide +kernel) rfl
theorem kw_415 : (Jvm.Cond.instanceMethod ({ cls := "ManyHands", name := "take", desc := "(III)I" } : Jvm.MethodName)) ∈ gtb := gtb_mem 465 (by decide +kernel) rfl
theorem kw_416 : (Jvm.Cond.selects "ManyHands" ({ cls := "ManyHands", name := "take", desc := "(III)I" } : Jvm.MethodName) ({ cls := "ManyHands", name := "take", desc := "(III)I" } : Jvm.MethodName)) ∈ gtb := gtb_mem 466 (by decide +kernel) rfl
set_option maxRecDepth 20000 in
theorem kw_417 : (Jvm.Cond.code ({ cls := "ManyHands", name := "take", desc := "(III)I" } : Jvm.MethodName) prog_1_method_9_code (7 : Nat) (Option.some Jvm.ClassFile.FieldType.int)) ∈ gtb := gtb_mem 467 (by exact rfl) rfl
theorem kw_418 : (Jvm.Cond.methodLink "ManyHands" (111 : Nat) ({ cls := "ManyHands$Page", name := "timesIn", desc := "(LManyHands$Reach;I)I" } : Jvm.MethodName)) ∈ gtb := gtb_mem 468 (by decide +kernel) rfl
theorem kw_419 : (Jvm.Cond.instanceMethod ({ cls := "ManyHands$Page", name := "timesIn", desc := "(LManyHands$Reach;I)I" } : Jvm.MethodName)) ∈ gtb := gtb_mem 469 (by decide +kernel) rfl
theorem kw_420 : (Jvm.Cond.selects "ManyHands$Page" ({ cls := "ManyHands$Page", name := "timesIn", desc := "(LManyHands$Reach;I)I" } : Jvm.MethodName) ({ cls := "ManyHands$Page", name := "timesIn", desc := "(LManyHands$Reach;I)I" } : Jvm.MethodName)) ∈ gtb := gtb_mem 470 (by decide +kernel) rfl
set_option maxRecDepth 20000 in
theorem kw_421 : (Jvm.Cond.code ({ cls := "ManyHands$Page", name := "timesIn", desc := "(LManyHands$Reach;I)I" } : Jvm.MethodName) prog_5_method_12_code (3 : Nat) (Option.some Jvm.ClassFile.FieldType.int)) ∈ gtb := gtb_mem 471 (by exact rfl) rfl
theorem kw_422 : (Jvm.Cond.methodLink "ManyHands$Page" (76 : Nat) ({ cls := "ManyHands$Page", name := "unknownTo", desc := "(LManyHands$Reach;III)I" } : Jvm.MethodName)) ∈ gtb := gtb_mem 472 (by decide +kernel) rfl
theorem kw_424 : (Jvm.Cond.instanceMethod ({ cls := "ManyHands$Page", name := "unknownTo", desc := "(LManyHands$Reach;III)I" } : Jvm.MethodName)) ∈ gtb := gtb_mem 474 (by decide +kernel) rfl
set_option maxRecDepth 20000 in
theorem kw_425 : (Jvm.Cond.code ({ cls := "ManyHands$Page", name := "unknownTo", desc := "(LManyHands$Reach;III)I" } : Jvm.MethodName) prog_5_method_11_code (7 : Nat) (Option.some Jvm.ClassFile.FieldType.int)) ∈ gtb := gtb_mem 475 (by exact rfl) rfl
theorem kw_426 : (Jvm.Cond.methodLink "ManyHands$Page" (72 : Nat) ({ cls := "ManyHands$Page", name := "gatherKnown", desc := "(LManyHands$Reach;II)V" } : Jvm.MethodName)) ∈ gtb := gtb_mem 476 (by decide +kernel) rfl
theorem kw_428 : (Jvm.Cond.instanceMethod ({ cls := "ManyHands$Page", name := "gatherKnown", desc := "(LManyHands$Reach;II)V" } : Jvm.MethodName)) ∈ gtb := gtb_mem 478 (by decide +kernel) rfl
set_option maxRecDepth 20000 in
theorem kw_429 : (Jvm.Cond.code ({ cls := "ManyHands$Page", name := "gatherKnown", desc := "(LManyHands$Reach;II)V" } : Jvm.MethodName) prog_5_method_10_code (5 : Nat) (Option.none : Option Jvm.ClassFile.FieldType)) ∈ gtb := gtb_mem 479 (by exact rfl) rfl
theorem kw_430 : (Jvm.Cond.methodLink "ManyHands$Page" (64 : Nat) ({ cls := "ManyHands$Reach", name := "empty", desc := "()V" } : Jvm.MethodName)) ∈ gtb := gtb_mem 480 (by decide +kernel) rfl
theorem kw_431 : (Jvm.Cond.instanceMethod ({ cls := "ManyHands$Reach", name := "empty", desc := "()V" } : Jvm.MethodName)) ∈ gtb := gtb_mem 481 (by decide +kernel) rfl
theorem kw_432 : (Jvm.Cond.selects "ManyHands$Reach" ({ cls := "ManyHands$Reach", name := "empty", desc := "()V" } : Jvm.MethodName) ({ cls := "ManyHands$Reach", name := "empty", desc := "()V" } : Jvm.MethodName)) ∈ gtb := gtb_mem 482 (by decide +kernel) rfl
set_option maxRecDepth 20000 in
theorem kw_433 : (Jvm.Cond.code ({ cls := "ManyHands$Reach", name := "empty", desc := "()V" } : Jvm.MethodName) prog_6_method_5_code (2 : Nat) (Option.none : Option Jvm.ClassFile.FieldType)) ∈ gtb := gtb_mem 483 (by exact rfl) rfl
theorem kw_434 : (Jvm.Cond.methodLink "ManyHands$Page" (42 : Nat) ({ cls := "ManyHands$Reach", name := "holds", desc := "(LManyHands$Entry;)Z" } : Jvm.MethodName)) ∈ gtb := gtb_mem 484 (by decide +kernel) rfl
theorem kw_435 : (Jvm.Cond.instanceMethod ({ cls := "ManyHands$Reach", name := "holds", desc := "(LManyHands$Entry;)Z" } : Jvm.MethodName)) ∈ gtb := gtb_mem 485 (by decide +kernel) rfl
theorem kw_436 : (Jvm.Cond.selects "ManyHands$Reach" ({ cls := "ManyHands$Reach", name := "holds", desc := "(LManyHands$Entry;)Z" } : Jvm.MethodName) ({ cls := "ManyHands$Reach", name := "holds", desc := "(LManyHands$Entry;)Z" } : Jvm.MethodName)) ∈ gtb := gtb_mem 486 (by decide +kernel) rfl
set_option maxRecDepth 20000 in
theorem kw_437 : (Jvm.Cond.code ({ cls := "ManyHands$Reach", name := "holds", desc := "(LManyHands$Entry;)Z" } : Jvm.MethodName) prog_6_method_2_code (2 : Nat) (Option.some Jvm.ClassFile.FieldType.boolean)) ∈ gtb := gtb_mem 487 (by exact rfl) rfl
theorem kw_438 : (Jvm.Cond.methodLink "ManyHands$Page" (68 : Nat) ({ cls := "ManyHands$Reach", name := "widen", desc := "(LManyHands$Reach;)V" } : Jvm.MethodName)) ∈ gtb := gtb_mem 488 (by decide +kernel) rfl
theorem kw_439 : (Jvm.Cond.methodLink "ManyHandsLaw" (53 : Nat) ({ cls := "ManyHands", name := "give", desc := "(IIIJ)I" } : Jvm.MethodName)) ∈ gtb := gtb_mem 489 (by decide +kernel) rfl
theorem kw_440 : (Jvm.Cond.instanceMethod ({ cls := "ManyHands", name := "give", desc := "(IIIJ)I" } : Jvm.MethodName)) ∈ gtb := gtb_mem 490 (by decide +kernel) rfl
theorem kw_441 : (Jvm.Cond.selects "ManyHands" ({ cls := "ManyHands", name := "give", desc := "(IIIJ)I" } : Jvm.MethodName) ({ cls := "ManyHands", name := "give", desc := "(IIIJ)I" } : Jvm.MethodName)) ∈ gtb := gtb_mem 491 (by decide +kernel) rfl
set_option maxRecDepth 20000 in
theorem kw_442 : (Jvm.Cond.code ({ cls := "ManyHands", name := "give", desc := "(IIIJ)I" } : Jvm.MethodName) prog_1_method_10_code (8 : Nat) (Option.some Jvm.ClassFile.FieldType.int)) ∈ gtb := gtb_mem 492 (by exact rfl) rfl
theorem kw_443 : (Jvm.Cond.methodLink "ManyHands" (115 : Nat) ({ cls := "ManyHands", name := "makeOfRights", desc := "(LManyHands$Hand;LManyHands$Page;IIJ)I" } : Jvm.MethodName)) ∈ gtb := gtb_mem 493 (by decide +kernel) rfl
theorem kw_445 : (Jvm.Cond.instanceMethod ({ cls := "ManyHands", name := "makeOfRights", desc := "(LManyHands$Hand;LManyHands$Page;IIJ)I" } : Jvm.MethodName)) ∈ gtb := gtb_mem 495 (by decide +kernel) rfl
set_option maxRecDepth 20000 in
theorem kw_446 : (Jvm.Cond.code ({ cls := "ManyHands", name := "makeOfRights", desc := "(LManyHands$Hand;LManyHands$Page;IIJ)I" } : Jvm.MethodName) prog_1_method_54_code (8 : Nat) (Option.some Jvm.ClassFile.FieldType.int)) ∈ gtb := gtb_mem 496 (by exact rfl) rfl
theorem kw_447 : (Jvm.Cond.methodLink "ManyHands" (209 : Nat) ({ cls := "ManyHands$Page", name := "rightsOf", desc := "(LManyHands$Reach;I)J" } : Jvm.MethodName)) ∈ gtb := gtb_mem 497 (by decide +kernel) rfl
theorem kw_448 : (Jvm.Cond.instanceMethod ({ cls := "ManyHands$Page", name := "rightsOf", desc := "(LManyHands$Reach;I)J" } : Jvm.MethodName)) ∈ gtb := gtb_mem 498 (by decide +kernel) rfl
theorem kw_449 : (Jvm.Cond.selects "ManyHands$Page" ({ cls := "ManyHands$Page", name := "rightsOf", desc := "(LManyHands$Reach;I)J" } : Jvm.MethodName) ({ cls := "ManyHands$Page", name := "rightsOf", desc := "(LManyHands$Reach;I)J" } : Jvm.MethodName)) ∈ gtb := gtb_mem 499 (by decide +kernel) rfl
set_option maxRecDepth 20000 in
theorem kw_450 : (Jvm.Cond.code ({ cls := "ManyHands$Page", name := "rightsOf", desc := "(LManyHands$Reach;I)J" } : Jvm.MethodName) prog_5_method_9_code (6 : Nat) (Option.some Jvm.ClassFile.FieldType.long)) ∈ gtb := gtb_mem 500 (by exact rfl) rfl
theorem kw_451 : (Jvm.Cond.methodLink "ManyHands$Page" (60 : Nat) ({ cls := "ManyHands$Entry", name := "rightsFor", desc := "(I)J" } : Jvm.MethodName)) ∈ gtb := gtb_mem 501 (by decide +kernel) rfl
theorem kw_452 : (Jvm.Cond.instanceMethod ({ cls := "ManyHands$Entry", name := "rightsFor", desc := "(I)J" } : Jvm.MethodName)) ∈ gtb := gtb_mem 502 (by decide +kernel) rfl
theorem kw_453 : (Jvm.Cond.selects "ManyHands$Entry" ({ cls := "ManyHands$Entry", name := "rightsFor", desc := "(I)J" } : Jvm.MethodName) ({ cls := "ManyHands$Entry", name := "rightsFor", desc := "(I)J" } : Jvm.MethodName)) ∈ gtb := gtb_mem 503 (by decide +kernel) rfl
set_option maxRecDepth 20000 in
theorem kw_454 : (Jvm.Cond.code ({ cls := "ManyHands$Entry", name := "rightsFor", desc := "(I)J" } : Jvm.MethodName) prog_2_method_3_code (4 : Nat) (Option.some Jvm.ClassFile.FieldType.long)) ∈ gtb := gtb_mem 504 (by exact rfl) rfl
theorem kw_455 : (Jvm.Cond.methodLink "ManyHandsLaw" (58 : Nat) ({ cls := "ManyHands", name := "spend", desc := "(IIJ)I" } : Jvm.MethodName)) ∈ gtb := gtb_mem 505 (by decide +kernel) rfl
theorem kw_456 : (Jvm.Cond.instanceMethod ({ cls := "ManyHands", name := "spend", desc := "(IIJ)I" } : Jvm.MethodName)) ∈ gtb := gtb_mem 506 (by decide +kernel) rfl
theorem kw_457 : (Jvm.Cond.selects "ManyHands" ({ cls := "ManyHands", name := "spend", desc := "(IIJ)I" } : Jvm.MethodName) ({ cls := "ManyHands", name := "spend", desc := "(IIJ)I" } : Jvm.MethodName)) ∈ gtb := gtb_mem 507 (by decide +kernel) rfl
set_option maxRecDepth 20000 in
theorem kw_458 : (Jvm.Cond.code ({ cls := "ManyHands", name := "spend", desc := "(IIJ)I" } : Jvm.MethodName) prog_1_method_11_code (7 : Nat) (Option.some Jvm.ClassFile.FieldType.int)) ∈ gtb := gtb_mem 508 (by exact rfl) rfl
theorem kw_459 : (Jvm.Cond.methodLink "ManyHandsLaw" (62 : Nat) ({ cls := "ManyHands", name := "raise", desc := "(IIZ)I" } : Jvm.MethodName)) ∈ gtb := gtb_mem 509 (by decide +kernel) rfl
theorem kw_460 : (Jvm.Cond.instanceMethod ({ cls := "ManyHands", name := "raise", desc := "(IIZ)I" } : Jvm.MethodName)) ∈ gtb := gtb_mem 510 (by decide +kernel) rfl
theorem kw_461 : (Jvm.Cond.selects "ManyHands" ({ cls := "ManyHands", name := "raise", desc := "(IIZ)I" } : Jvm.MethodName) ({ cls := "ManyHands", name := "raise", desc := "(IIZ)I" } : Jvm.MethodName)) ∈ gtb := gtb_mem 511 (by decide +kernel) rfl
set_option maxRecDepth 20000 in
theorem kw_462 : (Jvm.Cond.code ({ cls := "ManyHands", name := "raise", desc := "(IIZ)I" } : Jvm.MethodName) prog_1_method_12_code (7 : Nat) (Option.some Jvm.ClassFile.FieldType.int)) ∈ gtb := gtb_mem 512 (by exact rfl) rfl
theorem kw_463 : (Jvm.Cond.methodLink "ManyHandsLaw" (66 : Nat) ({ cls := "ManyHands", name := "change", desc := "(II)I" } : Jvm.MethodName)) ∈ gtb := gtb_mem 513 (by decide +kernel) rfl
theorem kw_464 : (Jvm.Cond.instanceMethod ({ cls := "ManyHands", name := "change", desc := "(II)I" } : Jvm.MethodName)) ∈ gtb := gtb_mem 514 (by decide +kernel) rfl
theorem kw_465 : (Jvm.Cond.selects "ManyHands" ({ cls := "ManyHands", name := "change", desc := "(II)I" } : Jvm.MethodName) ({ cls := "ManyHands", name := "change", desc := "(II)I" } : Jvm.MethodName)) ∈ gtb := gtb_mem 515 (by decide +kernel) rfl
set_option maxRecDepth 20000 in
theorem kw_466 : (Jvm.Cond.code ({ cls := "ManyHands", name := "change", desc := "(II)I" } : Jvm.MethodName) prog_1_method_13_code (4 : Nat) (Option.some Jvm.ClassFile.FieldType.int)) ∈ gtb := gtb_mem 516 (by exact rfl) rfl
theorem kw_467 : (Jvm.Cond.methodLink "ManyHands" (118 : Nat) ({ cls := "ManyHands", name := "entryAt", desc := "(I)LManyHands$Entry;" } : Jvm.MethodName)) ∈ gtb := gtb_mem 517 (by decide +kernel) rfl
theorem kw_469 : (Jvm.Cond.instanceMethod ({ cls := "ManyHands", name := "entryAt", desc := "(I)LManyHands$Entry;" } : Jvm.MethodName)) ∈ gtb := gtb_mem 519 (by decide +kernel) rfl
set_option maxRecDepth 20000 in
theorem kw_470 : (Jvm.Cond.code ({ cls := "ManyHands", name := "entryAt", desc := "(I)LManyHands$Entry;" } : Jvm.MethodName) prog_1_method_43_code (2 : Nat) (Option.some (Jvm.ClassFile.FieldType.object "ManyHands$Entry"))) ∈ gtb := gtb_mem 520 (by exact rfl) rfl
theorem kw_471 : (Jvm.Cond.methodLink "ManyHands" (274 : Nat) ({ cls := "java/util/ArrayList", name := "get", desc := "(I)Ljava/lang/Object;" } : Jvm.MethodName)) ∈ gtb := gtb_mem 521 (by decide +kernel) rfl
theorem kw_472 : (Jvm.Cond.instanceMethod ({ cls := "java/util/ArrayList", name := "get", desc := "(I)Ljava/lang/Object;" } : Jvm.MethodName)) ∈ gtb := gtb_mem 522 (by decide +kernel) rfl
theorem kw_473 : (Jvm.Cond.selects "java/util/ArrayList" ({ cls := "java/util/ArrayList", name := "get", desc := "(I)Ljava/lang/Object;" } : Jvm.MethodName) ({ cls := "java/util/ArrayList", name := "get", desc := "(I)Ljava/lang/Object;" } : Jvm.MethodName)) ∈ gtb := gtb_mem 523 (by decide +kernel) rfl
set_option maxRecDepth 20000 in
theorem kw_474 : (Jvm.Cond.code ({ cls := "java/util/ArrayList", name := "get", desc := "(I)Ljava/lang/Object;" } : Jvm.MethodName) prog_17_method_20_code (2 : Nat) (Option.some (Jvm.ClassFile.FieldType.object "java/lang/Object"))) ∈ gtb := gtb_mem 524 (by exact rfl) rfl
theorem kw_475 : (Jvm.Cond.methodLink "java/util/ArrayList" (118 : Nat) ({ cls := "java/util/Objects", name := "checkIndex", desc := "(II)I" } : Jvm.MethodName)) ∈ gtb := gtb_mem 525 (by decide +kernel) rfl
theorem kw_476 : (Jvm.Cond.static ({ cls := "java/util/Objects", name := "checkIndex", desc := "(II)I" } : Jvm.MethodName)) ∈ gtb := gtb_mem 526 (by decide +kernel) rfl
set_option maxRecDepth 20000 in
theorem kw_477 : (Jvm.Cond.code ({ cls := "java/util/Objects", name := "checkIndex", desc := "(II)I" } : Jvm.MethodName) prog_21_method_17_code (2 : Nat) (Option.some Jvm.ClassFile.FieldType.int)) ∈ gtb := gtb_mem 527 (by exact rfl) rfl
theorem kw_478 : (Jvm.Cond.methodLink "java/util/Objects" (105 : Nat) ({ cls := "jdk/internal/util/Preconditions", name := "checkIndex", desc := "(IILjava/util/function/BiFunction;)I" } : Jvm.MethodName)) ∈ gtb := gtb_mem 528 (by decide +kernel) rfl
theorem kw_479 : (Jvm.Cond.static ({ cls := "jdk/internal/util/Preconditions", name := "checkIndex", desc := "(IILjava/util/function/BiFunction;)I" } : Jvm.MethodName)) ∈ gtb := gtb_mem 529 (by decide +kernel) rfl
set_option maxRecDepth 20000 in
theorem kw_480 : (Jvm.Cond.code ({ cls := "jdk/internal/util/Preconditions", name := "checkIndex", desc := "(IILjava/util/function/BiFunction;)I" } : Jvm.MethodName) prog_25_method_11_code (3 : Nat) (Option.some Jvm.ClassFile.FieldType.int)) ∈ gtb := gtb_mem 530 (by exact rfl) rfl
theorem kw_481 : (Jvm.Cond.methodLink "java/util/ArrayList" (123 : Nat) ({ cls := "java/util/ArrayList", name := "elementData", desc := "(I)Ljava/lang/Object;" } : Jvm.MethodName)) ∈ gtb := gtb_mem 531 (by decide +kernel) rfl
theorem kw_482 : (Jvm.Cond.instanceMethod ({ cls := "java/util/ArrayList", name := "elementData", desc := "(I)Ljava/lang/Object;" } : Jvm.MethodName)) ∈ gtb := gtb_mem 532 (by decide +kernel) rfl
theorem kw_483 : (Jvm.Cond.selects "java/util/ArrayList" ({ cls := "java/util/ArrayList", name := "elementData", desc := "(I)Ljava/lang/Object;" } : Jvm.MethodName) ({ cls := "java/util/ArrayList", name := "elementData", desc := "(I)Ljava/lang/Object;" } : Jvm.MethodName)) ∈ gtb := gtb_mem 533 (by decide +kernel) rfl
set_option maxRecDepth 20000 in
theorem kw_484 : (Jvm.Cond.code ({ cls := "java/util/ArrayList", name := "elementData", desc := "(I)Ljava/lang/Object;" } : Jvm.MethodName) prog_17_method_18_code (2 : Nat) (Option.some (Jvm.ClassFile.FieldType.object "java/lang/Object"))) ∈ gtb := gtb_mem 534 (by exact rfl) rfl
theorem kw_485 : (Jvm.Cond.methodLink "ManyHands" (136 : Nat) ({ cls := "ManyHands$Reach", name := "size", desc := "()I" } : Jvm.MethodName)) ∈ gtb := gtb_mem 535 (by decide +kernel) rfl
theorem kw_486 : (Jvm.Cond.instanceMethod ({ cls := "ManyHands$Reach", name := "size", desc := "()I" } : Jvm.MethodName)) ∈ gtb := gtb_mem 536 (by decide +kernel) rfl
theorem kw_487 : (Jvm.Cond.selects "ManyHands$Reach" ({ cls := "ManyHands$Reach", name := "size", desc := "()I" } : Jvm.MethodName) ({ cls := "ManyHands$Reach", name := "size", desc := "()I" } : Jvm.MethodName)) ∈ gtb := gtb_mem 537 (by decide +kernel) rfl
set_option maxRecDepth 20000 in
theorem kw_488 : (Jvm.Cond.code ({ cls := "ManyHands$Reach", name := "size", desc := "()I" } : Jvm.MethodName) prog_6_method_6_code (3 : Nat) (Option.some Jvm.ClassFile.FieldType.int)) ∈ gtb := gtb_mem 538 (by exact rfl) rfl
theorem kw_489 : (Jvm.Cond.methodLink "ManyHands" (142 : Nat) ({ cls := "ManyHands", name := "allHave", desc := "(LManyHands$Entry;)Z" } : Jvm.MethodName)) ∈ gtb := gtb_mem 539 (by decide +kernel) rfl
theorem kw_491 : (Jvm.Cond.instanceMethod ({ cls := "ManyHands", name := "allHave", desc := "(LManyHands$Entry;)Z" } : Jvm.MethodName)) ∈ gtb := gtb_mem 541 (by decide +kernel) rfl
set_option maxRecDepth 20000 in
theorem kw_492 : (Jvm.Cond.code ({ cls := "ManyHands", name := "allHave", desc := "(LManyHands$Entry;)Z" } : Jvm.MethodName) prog_1_method_56_code (4 : Nat) (Option.some Jvm.ClassFile.FieldType.boolean)) ∈ gtb := gtb_mem 542 (by exact rfl) rfl
theorem kw_493 : (Jvm.Cond.methodLink "ManyHands" (146 : Nat) ({ cls := "ManyHands$Reach", name := "holds", desc := "(LManyHands$Entry;)Z" } : Jvm.MethodName)) ∈ gtb := gtb_mem 543 (by decide +kernel) rfl
theorem kw_494 : (Jvm.Cond.methodLink "ManyHandsLaw" (70 : Nat) ({ cls := "ManyHands", name := "knows", desc := "(II)I" } : Jvm.MethodName)) ∈ gtb := gtb_mem 544 (by decide +kernel) rfl
theorem kw_495 : (Jvm.Cond.instanceMethod ({ cls := "ManyHands", name := "knows", desc := "(II)I" } : Jvm.MethodName)) ∈ gtb := gtb_mem 545 (by decide +kernel) rfl
theorem kw_496 : (Jvm.Cond.selects "ManyHands" ({ cls := "ManyHands", name := "knows", desc := "(II)I" } : Jvm.MethodName) ({ cls := "ManyHands", name := "knows", desc := "(II)I" } : Jvm.MethodName)) ∈ gtb := gtb_mem 546 (by decide +kernel) rfl
set_option maxRecDepth 20000 in
theorem kw_497 : (Jvm.Cond.code ({ cls := "ManyHands", name := "knows", desc := "(II)I" } : Jvm.MethodName) prog_1_method_14_code (5 : Nat) (Option.some Jvm.ClassFile.FieldType.int)) ∈ gtb := gtb_mem 547 (by exact rfl) rfl
theorem kw_498 : (Jvm.Cond.methodLink "ManyHandsLaw" (74 : Nat) ({ cls := "ManyHands", name := "come", desc := "(II)I" } : Jvm.MethodName)) ∈ gtb := gtb_mem 548 (by decide +kernel) rfl
theorem kw_499 : (Jvm.Cond.instanceMethod ({ cls := "ManyHands", name := "come", desc := "(II)I" } : Jvm.MethodName)) ∈ gtb := gtb_mem 549 (by decide +kernel) rfl
theorem kw_500 : (Jvm.Cond.selects "ManyHands" ({ cls := "ManyHands", name := "come", desc := "(II)I" } : Jvm.MethodName) ({ cls := "ManyHands", name := "come", desc := "(II)I" } : Jvm.MethodName)) ∈ gtb := gtb_mem 550 (by decide +kernel) rfl
set_option maxRecDepth 20000 in
theorem kw_501 : (Jvm.Cond.code ({ cls := "ManyHands", name := "come", desc := "(II)I" } : Jvm.MethodName) prog_1_method_15_code (5 : Nat) (Option.some Jvm.ClassFile.FieldType.int)) ∈ gtb := gtb_mem 551 (by exact rfl) rfl
theorem kw_502 : (Jvm.Cond.methodLink "ManyHands" (149 : Nat) ({ cls := "ManyHands$Hand", name := "receive", desc := "(LManyHands$Entry;)I" } : Jvm.MethodName)) ∈ gtb := gtb_mem 552 (by decide +kernel) rfl
theorem kw_503 : (Jvm.Cond.instanceMethod ({ cls := "ManyHands$Hand", name := "receive", desc := "(LManyHands$Entry;)I" } : Jvm.MethodName)) ∈ gtb := gtb_mem 553 (by decide +kernel) rfl
theorem kw_504 : (Jvm.Cond.selects "ManyHands$Hand" ({ cls := "ManyHands$Hand", name := "receive", desc := "(LManyHands$Entry;)I" } : Jvm.MethodName) ({ cls := "ManyHands$Hand", name := "receive", desc := "(LManyHands$Entry;)I" } : Jvm.MethodName)) ∈ gtb := gtb_mem 554 (by decide +kernel) rfl
set_option maxRecDepth 20000 in
theorem kw_505 : (Jvm.Cond.code ({ cls := "ManyHands$Hand", name := "receive", desc := "(LManyHands$Entry;)I" } : Jvm.MethodName) prog_3_method_6_code (2 : Nat) (Option.some Jvm.ClassFile.FieldType.int)) ∈ gtb := gtb_mem 555 (by exact rfl) rfl
theorem kw_506 : (Jvm.Cond.methodLink "ManyHands$Hand" (76 : Nat) ({ cls := "ManyHands$Hand", name := "awaits", desc := "(LManyHands$Entry;)Z" } : Jvm.MethodName)) ∈ gtb := gtb_mem 556 (by decide +kernel) rfl
theorem kw_507 : (Jvm.Cond.instanceMethod ({ cls := "ManyHands$Hand", name := "awaits", desc := "(LManyHands$Entry;)Z" } : Jvm.MethodName)) ∈ gtb := gtb_mem 557 (by decide +kernel) rfl
theorem kw_508 : (Jvm.Cond.selects "ManyHands$Hand" ({ cls := "ManyHands$Hand", name := "awaits", desc := "(LManyHands$Entry;)Z" } : Jvm.MethodName) ({ cls := "ManyHands$Hand", name := "awaits", desc := "(LManyHands$Entry;)Z" } : Jvm.MethodName)) ∈ gtb := gtb_mem 558 (by decide +kernel) rfl
set_option maxRecDepth 20000 in
theorem kw_509 : (Jvm.Cond.code ({ cls := "ManyHands$Hand", name := "awaits", desc := "(LManyHands$Entry;)Z" } : Jvm.MethodName) prog_3_method_5_code (3 : Nat) (Option.some Jvm.ClassFile.FieldType.boolean)) ∈ gtb := gtb_mem 559 (by exact rfl) rfl
theorem kw_510 : (Jvm.Cond.methodLink "ManyHands$Hand" (51 : Nat) ({ cls := "java/util/ArrayList", name := "get", desc := "(I)Ljava/lang/Object;" } : Jvm.MethodName)) ∈ gtb := gtb_mem 560 (by decide +kernel) rfl
theorem kw_511 : (Jvm.Cond.classLink "ManyHands$Hand" (55 : Nat) "ManyHands$Entry") ∈ gtb := gtb_mem 561 (by decide +kernel) rfl
theorem kw_512 : (Jvm.Cond.methodLink "ManyHands$Hand" (80 : Nat) ({ cls := "ManyHands$Hand", name := "queue", desc := "(LManyHands$Entry;)V" } : Jvm.MethodName)) ∈ gtb := gtb_mem 562 (by decide +kernel) rfl
theorem kw_513 : (Jvm.Cond.instanceMethod ({ cls := "ManyHands$Hand", name := "queue", desc := "(LManyHands$Entry;)V" } : Jvm.MethodName)) ∈ gtb := gtb_mem 563 (by decide +kernel) rfl
theorem kw_514 : (Jvm.Cond.selects "ManyHands$Hand" ({ cls := "ManyHands$Hand", name := "queue", desc := "(LManyHands$Entry;)V" } : Jvm.MethodName) ({ cls := "ManyHands$Hand", name := "queue", desc := "(LManyHands$Entry;)V" } : Jvm.MethodName)) ∈ gtb := gtb_mem 564 (by decide +kernel) rfl
set_option maxRecDepth 20000 in
theorem kw_515 : (Jvm.Cond.code ({ cls := "ManyHands$Hand", name := "queue", desc := "(LManyHands$Entry;)V" } : Jvm.MethodName) prog_3_method_7_code (3 : Nat) (Option.none : Option Jvm.ClassFile.FieldType)) ∈ gtb := gtb_mem 565 (by exact rfl) rfl
theorem kw_516 : (Jvm.Cond.methodLink "ManyHands$Hand" (87 : Nat) ({ cls := "ManyHands$Entry", name := "isBelow", desc := "(LManyHands$Entry;)Z" } : Jvm.MethodName)) ∈ gtb := gtb_mem 566 (by decide +kernel) rfl
theorem kw_517 : (Jvm.Cond.instanceMethod ({ cls := "ManyHands$Entry", name := "isBelow", desc := "(LManyHands$Entry;)Z" } : Jvm.MethodName)) ∈ gtb := gtb_mem 567 (by decide +kernel) rfl
theorem kw_518 : (Jvm.Cond.selects "ManyHands$Entry" ({ cls := "ManyHands$Entry", name := "isBelow", desc := "(LManyHands$Entry;)Z" } : Jvm.MethodName) ({ cls := "ManyHands$Entry", name := "isBelow", desc := "(LManyHands$Entry;)Z" } : Jvm.MethodName)) ∈ gtb := gtb_mem 568 (by decide +kernel) rfl
set_option maxRecDepth 20000 in
theorem kw_519 : (Jvm.Cond.code ({ cls := "ManyHands$Entry", name := "isBelow", desc := "(LManyHands$Entry;)Z" } : Jvm.MethodName) prog_2_method_2_code (2 : Nat) (Option.some Jvm.ClassFile.FieldType.boolean)) ∈ gtb := gtb_mem 569 (by exact rfl) rfl
theorem kw_520 : (Jvm.Cond.methodLink "ManyHands$Hand" (90 : Nat) ({ cls := "java/util/ArrayList", name := "add", desc := "(ILjava/lang/Object;)V" } : Jvm.MethodName)) ∈ gtb := gtb_mem 570 (by decide +kernel) rfl
theorem kw_521 : (Jvm.Cond.instanceMethod ({ cls := "java/util/ArrayList", name := "add", desc := "(ILjava/lang/Object;)V" } : Jvm.MethodName)) ∈ gtb := gtb_mem 571 (by decide +kernel) rfl
theorem kw_522 : (Jvm.Cond.selects "java/util/ArrayList" ({ cls := "java/util/ArrayList", name := "add", desc := "(ILjava/lang/Object;)V" } : Jvm.MethodName) ({ cls := "java/util/ArrayList", name := "add", desc := "(ILjava/lang/Object;)V" } : Jvm.MethodName)) ∈ gtb := gtb_mem 572 (by decide +kernel) rfl
set_option maxRecDepth 20000 in
theorem kw_523 : (Jvm.Cond.code ({ cls := "java/util/ArrayList", name := "add", desc := "(ILjava/lang/Object;)V" } : Jvm.MethodName) prog_17_method_26_code (5 : Nat) (Option.none : Option Jvm.ClassFile.FieldType)) ∈ gtb := gtb_mem 573 (by exact rfl) rfl
theorem kw_524 : (Jvm.Cond.methodLink "java/util/ArrayList" (135 : Nat) ({ cls := "java/util/ArrayList", name := "rangeCheckForAdd", desc := "(I)V" } : Jvm.MethodName)) ∈ gtb := gtb_mem 574 (by decide +kernel) rfl
theorem kw_526 : (Jvm.Cond.instanceMethod ({ cls := "java/util/ArrayList", name := "rangeCheckForAdd", desc := "(I)V" } : Jvm.MethodName)) ∈ gtb := gtb_mem 576 (by decide +kernel) rfl
set_option maxRecDepth 20000 in
theorem kw_527 : (Jvm.Cond.code ({ cls := "java/util/ArrayList", name := "rangeCheckForAdd", desc := "(I)V" } : Jvm.MethodName) prog_17_method_45_code (2 : Nat) (Option.none : Option Jvm.ClassFile.FieldType)) ∈ gtb := gtb_mem 577 (by exact rfl) rfl
theorem kw_528 : (Jvm.Cond.methodLink "java/util/ArrayList" (112 : Nat) ({ cls := "java/lang/System", name := "arraycopy", desc := "(Ljava/lang/Object;ILjava/lang/Object;II)V" } : Jvm.MethodName)) ∈ gtb := gtb_mem 578 (by decide +kernel) rfl
theorem kw_529 : (Jvm.Cond.methodLink "ManyHands$Hand" (84 : Nat) ({ cls := "ManyHands$Hand", name := "includeReady", desc := "()I" } : Jvm.MethodName)) ∈ gtb := gtb_mem 579 (by decide +kernel) rfl
theorem kw_530 : (Jvm.Cond.instanceMethod ({ cls := "ManyHands$Hand", name := "includeReady", desc := "()I" } : Jvm.MethodName)) ∈ gtb := gtb_mem 580 (by decide +kernel) rfl
theorem kw_531 : (Jvm.Cond.selects "ManyHands$Hand" ({ cls := "ManyHands$Hand", name := "includeReady", desc := "()I" } : Jvm.MethodName) ({ cls := "ManyHands$Hand", name := "includeReady", desc := "()I" } : Jvm.MethodName)) ∈ gtb := gtb_mem 581 (by decide +kernel) rfl
set_option maxRecDepth 20000 in
theorem kw_532 : (Jvm.Cond.code ({ cls := "ManyHands$Hand", name := "includeReady", desc := "()I" } : Jvm.MethodName) prog_3_method_8_code (5 : Nat) (Option.some Jvm.ClassFile.FieldType.int)) ∈ gtb := gtb_mem 582 (by exact rfl) rfl
theorem kw_533 : (Jvm.Cond.methodLink "ManyHands$Hand" (97 : Nat) ({ cls := "ManyHands$Reach", name := "covers", desc := "(LManyHands$Reach;)Z" } : Jvm.MethodName)) ∈ gtb := gtb_mem 583 (by decide +kernel) rfl
theorem kw_534 : (Jvm.Cond.instanceMethod ({ cls := "ManyHands$Reach", name := "covers", desc := "(LManyHands$Reach;)Z" } : Jvm.MethodName)) ∈ gtb := gtb_mem 584 (by decide +kernel) rfl
theorem kw_535 : (Jvm.Cond.selects "ManyHands$Reach" ({ cls := "ManyHands$Reach", name := "covers", desc := "(LManyHands$Reach;)Z" } : Jvm.MethodName) ({ cls := "ManyHands$Reach", name := "covers", desc := "(LManyHands$Reach;)Z" } : Jvm.MethodName)) ∈ gtb := gtb_mem 585 (by decide +kernel) rfl
set_option maxRecDepth 20000 in
theorem kw_536 : (Jvm.Cond.code ({ cls := "ManyHands$Reach", name := "covers", desc := "(LManyHands$Reach;)Z" } : Jvm.MethodName) prog_6_method_3_code (3 : Nat) (Option.some Jvm.ClassFile.FieldType.boolean)) ∈ gtb := gtb_mem 586 (by exact rfl) rfl
theorem kw_537 : (Jvm.Cond.methodLink "ManyHands$Hand" (101 : Nat) ({ cls := "ManyHands$Hand", name := "include", desc := "(LManyHands$Entry;)V" } : Jvm.MethodName)) ∈ gtb := gtb_mem 587 (by decide +kernel) rfl
theorem kw_538 : (Jvm.Cond.methodLink "ManyHands$Hand" (104 : Nat) ({ cls := "java/util/ArrayList", name := "remove", desc := "(I)Ljava/lang/Object;" } : Jvm.MethodName)) ∈ gtb := gtb_mem 588 (by decide +kernel) rfl
theorem kw_539 : (Jvm.Cond.instanceMethod ({ cls := "java/util/ArrayList", name := "remove", desc := "(I)Ljava/lang/Object;" } : Jvm.MethodName)) ∈ gtb := gtb_mem 589 (by decide +kernel) rfl
theorem kw_540 : (Jvm.Cond.selects "java/util/ArrayList" ({ cls := "java/util/ArrayList", name := "remove", desc := "(I)Ljava/lang/Object;" } : Jvm.MethodName) ({ cls := "java/util/ArrayList", name := "remove", desc := "(I)Ljava/lang/Object;" } : Jvm.MethodName)) ∈ gtb := gtb_mem 590 (by decide +kernel) rfl
set_option maxRecDepth 20000 in
theorem kw_541 : (Jvm.Cond.code ({ cls := "java/util/ArrayList", name := "remove", desc := "(I)Ljava/lang/Object;" } : Jvm.MethodName) prog_17_method_29_code (4 : Nat) (Option.some (Jvm.ClassFile.FieldType.object "java/lang/Object"))) ∈ gtb := gtb_mem 591 (by exact rfl) rfl
theorem kw_542 : (Jvm.Cond.methodLink "java/util/ArrayList" (144 : Nat) ({ cls := "java/util/ArrayList", name := "fastRemove", desc := "([Ljava/lang/Object;I)V" } : Jvm.MethodName)) ∈ gtb := gtb_mem 592 (by decide +kernel) rfl
theorem kw_544 : (Jvm.Cond.instanceMethod ({ cls := "java/util/ArrayList", name := "fastRemove", desc := "([Ljava/lang/Object;I)V" } : Jvm.MethodName)) ∈ gtb := gtb_mem 594 (by decide +kernel) rfl
set_option maxRecDepth 20000 in
theorem kw_545 : (Jvm.Cond.code ({ cls := "java/util/ArrayList", name := "fastRemove", desc := "([Ljava/lang/Object;I)V" } : Jvm.MethodName) prog_17_method_39_code (4 : Nat) (Option.none : Option Jvm.ClassFile.FieldType)) ∈ gtb := gtb_mem 595 (by exact rfl) rfl
theorem kw_546 : (Jvm.Cond.methodLink "ManyHandsLaw" (78 : Nat) ({ cls := "ManyHands", name := "meet", desc := "(III)I" } : Jvm.MethodName)) ∈ gtb := gtb_mem 596 (by decide +kernel) rfl
theorem kw_547 : (Jvm.Cond.instanceMethod ({ cls := "ManyHands", name := "meet", desc := "(III)I" } : Jvm.MethodName)) ∈ gtb := gtb_mem 597 (by decide +kernel) rfl
theorem kw_548 : (Jvm.Cond.selects "ManyHands" ({ cls := "ManyHands", name := "meet", desc := "(III)I" } : Jvm.MethodName) ({ cls := "ManyHands", name := "meet", desc := "(III)I" } : Jvm.MethodName)) ∈ gtb := gtb_mem 598 (by decide +kernel) rfl
set_option maxRecDepth 20000 in
theorem kw_549 : (Jvm.Cond.code ({ cls := "ManyHands", name := "meet", desc := "(III)I" } : Jvm.MethodName) prog_1_method_16_code (9 : Nat) (Option.some Jvm.ClassFile.FieldType.int)) ∈ gtb := gtb_mem 599 (by exact rfl) rfl
theorem kw_550 : (Jvm.Cond.methodLink "ManyHands" (153 : Nat) ({ cls := "java/lang/Math", name := "min", desc := "(II)I" } : Jvm.MethodName)) ∈ gtb := gtb_mem 600 (by decide +kernel) rfl
theorem kw_551 : (Jvm.Cond.methodLink "ManyHands" (159 : Nat) ({ cls := "ManyHands", name := "leastLacking", desc := "(LManyHands$Hand;LManyHands$Hand;)LManyHands$Entry;" } : Jvm.MethodName)) ∈ gtb := gtb_mem 601 (by decide +kernel) rfl
theorem kw_553 : (Jvm.Cond.instanceMethod ({ cls := "ManyHands", name := "leastLacking", desc := "(LManyHands$Hand;LManyHands$Hand;)LManyHands$Entry;" } : Jvm.MethodName)) ∈ gtb := gtb_mem 603 (by decide +kernel) rfl
set_option maxRecDepth 20000 in
theorem kw_554 : (Jvm.Cond.code ({ cls := "ManyHands", name := "leastLacking", desc := "(LManyHands$Hand;LManyHands$Hand;)LManyHands$Entry;" } : Jvm.MethodName) prog_1_method_57_code (8 : Nat) (Option.some (Jvm.ClassFile.FieldType.object "ManyHands$Entry"))) ∈ gtb := gtb_mem 604 (by exact rfl) rfl
theorem kw_555 : (Jvm.Cond.methodLink "ManyHands" (309 : Nat) ({ cls := "ManyHands$Hand", name := "ownAt", desc := "(I)LManyHands$Entry;" } : Jvm.MethodName)) ∈ gtb := gtb_mem 605 (by decide +kernel) rfl
theorem kw_556 : (Jvm.Cond.instanceMethod ({ cls := "ManyHands$Hand", name := "ownAt", desc := "(I)LManyHands$Entry;" } : Jvm.MethodName)) ∈ gtb := gtb_mem 606 (by decide +kernel) rfl
theorem kw_557 : (Jvm.Cond.selects "ManyHands$Hand" ({ cls := "ManyHands$Hand", name := "ownAt", desc := "(I)LManyHands$Entry;" } : Jvm.MethodName) ({ cls := "ManyHands$Hand", name := "ownAt", desc := "(I)LManyHands$Entry;" } : Jvm.MethodName)) ∈ gtb := gtb_mem 607 (by decide +kernel) rfl
set_option maxRecDepth 20000 in
theorem kw_558 : (Jvm.Cond.code ({ cls := "ManyHands$Hand", name := "ownAt", desc := "(I)LManyHands$Entry;" } : Jvm.MethodName) prog_3_method_3_code (2 : Nat) (Option.some (Jvm.ClassFile.FieldType.object "ManyHands$Entry"))) ∈ gtb := gtb_mem 608 (by exact rfl) rfl
theorem kw_559 : (Jvm.Cond.methodLink "ManyHands" (312 : Nat) ({ cls := "ManyHands$Entry", name := "isBelow", desc := "(LManyHands$Entry;)Z" } : Jvm.MethodName)) ∈ gtb := gtb_mem 609 (by decide +kernel) rfl
theorem kw_560 : (Jvm.Cond.methodLink "ManyHandsLaw" (82 : Nat) ({ cls := "ManyHands", name := "lose", desc := "(I)I" } : Jvm.MethodName)) ∈ gtb := gtb_mem 610 (by decide +kernel) rfl
theorem kw_561 : (Jvm.Cond.instanceMethod ({ cls := "ManyHands", name := "lose", desc := "(I)I" } : Jvm.MethodName)) ∈ gtb := gtb_mem 611 (by decide +kernel) rfl
theorem kw_562 : (Jvm.Cond.selects "ManyHands" ({ cls := "ManyHands", name := "lose", desc := "(I)I" } : Jvm.MethodName) ({ cls := "ManyHands", name := "lose", desc := "(I)I" } : Jvm.MethodName)) ∈ gtb := gtb_mem 612 (by decide +kernel) rfl
set_option maxRecDepth 20000 in
theorem kw_563 : (Jvm.Cond.code ({ cls := "ManyHands", name := "lose", desc := "(I)I" } : Jvm.MethodName) prog_1_method_17_code (3 : Nat) (Option.some Jvm.ClassFile.FieldType.int)) ∈ gtb := gtb_mem 613 (by exact rfl) rfl
theorem kw_564 : (Jvm.Cond.methodLink "ManyHands" (163 : Nat) ({ cls := "ManyHands$Hand", name := "forget", desc := "()I" } : Jvm.MethodName)) ∈ gtb := gtb_mem 614 (by decide +kernel) rfl
theorem kw_565 : (Jvm.Cond.instanceMethod ({ cls := "ManyHands$Hand", name := "forget", desc := "()I" } : Jvm.MethodName)) ∈ gtb := gtb_mem 615 (by decide +kernel) rfl
theorem kw_566 : (Jvm.Cond.selects "ManyHands$Hand" ({ cls := "ManyHands$Hand", name := "forget", desc := "()I" } : Jvm.MethodName) ({ cls := "ManyHands$Hand", name := "forget", desc := "()I" } : Jvm.MethodName)) ∈ gtb := gtb_mem 616 (by decide +kernel) rfl
set_option maxRecDepth 20000 in
theorem kw_567 : (Jvm.Cond.code ({ cls := "ManyHands$Hand", name := "forget", desc := "()I" } : Jvm.MethodName) prog_3_method_9_code (3 : Nat) (Option.some Jvm.ClassFile.FieldType.int)) ∈ gtb := gtb_mem 617 (by exact rfl) rfl
theorem kw_568 : (Jvm.Cond.methodLink "ManyHands$Hand" (107 : Nat) ({ cls := "ManyHands$Reach", name := "size", desc := "()I" } : Jvm.MethodName)) ∈ gtb := gtb_mem 618 (by decide +kernel) rfl
theorem kw_569 : (Jvm.Cond.methodLink "ManyHands$Hand" (108 : Nat) ({ cls := "ManyHands$Reach", name := "empty", desc := "()V" } : Jvm.MethodName)) ∈ gtb := gtb_mem 619 (by decide +kernel) rfl
theorem kw_570 : (Jvm.Cond.methodLink "ManyHands$Hand" (111 : Nat) ({ cls := "java/util/ArrayList", name := "clear", desc := "()V" } : Jvm.MethodName)) ∈ gtb := gtb_mem 620 (by decide +kernel) rfl
theorem kw_571 : (Jvm.Cond.instanceMethod ({ cls := "java/util/ArrayList", name := "clear", desc := "()V" } : Jvm.MethodName)) ∈ gtb := gtb_mem 621 (by decide +kernel) rfl
theorem kw_572 : (Jvm.Cond.selects "java/util/ArrayList" ({ cls := "java/util/ArrayList", name := "clear", desc := "()V" } : Jvm.MethodName) ({ cls := "java/util/ArrayList", name := "clear", desc := "()V" } : Jvm.MethodName)) ∈ gtb := gtb_mem 622 (by decide +kernel) rfl
set_option maxRecDepth 20000 in
theorem kw_573 : (Jvm.Cond.code ({ cls := "java/util/ArrayList", name := "clear", desc := "()V" } : Jvm.MethodName) prog_17_method_40_code (4 : Nat) (Option.none : Option Jvm.ClassFile.FieldType)) ∈ gtb := gtb_mem 623 (by exact rfl) rfl
theorem kw_574 : (Jvm.Cond.methodLink "ManyHandsLaw" (86 : Nat) ({ cls := "ManyHands", name := "told", desc := "(II)I" } : Jvm.MethodName)) ∈ gtb := gtb_mem 624 (by decide +kernel) rfl
theorem kw_575 : (Jvm.Cond.instanceMethod ({ cls := "ManyHands", name := "told", desc := "(II)I" } : Jvm.MethodName)) ∈ gtb := gtb_mem 625 (by decide +kernel) rfl
theorem kw_576 : (Jvm.Cond.selects "ManyHands" ({ cls := "ManyHands", name := "told", desc := "(II)I" } : Jvm.MethodName) ({ cls := "ManyHands", name := "told", desc := "(II)I" } : Jvm.MethodName)) ∈ gtb := gtb_mem 626 (by decide +kernel) rfl
set_option maxRecDepth 20000 in
theorem kw_577 : (Jvm.Cond.code ({ cls := "ManyHands", name := "told", desc := "(II)I" } : Jvm.MethodName) prog_1_method_18_code (4 : Nat) (Option.some Jvm.ClassFile.FieldType.int)) ∈ gtb := gtb_mem 627 (by exact rfl) rfl
theorem kw_578 : (Jvm.Cond.methodLink "ManyHands" (166 : Nat) ({ cls := "ManyHands$Hand", name := "report", desc := "(I)I" } : Jvm.MethodName)) ∈ gtb := gtb_mem 628 (by decide +kernel) rfl
theorem kw_579 : (Jvm.Cond.instanceMethod ({ cls := "ManyHands$Hand", name := "report", desc := "(I)I" } : Jvm.MethodName)) ∈ gtb := gtb_mem 629 (by decide +kernel) rfl
theorem kw_580 : (Jvm.Cond.selects "ManyHands$Hand" ({ cls := "ManyHands$Hand", name := "report", desc := "(I)I" } : Jvm.MethodName) ({ cls := "ManyHands$Hand", name := "report", desc := "(I)I" } : Jvm.MethodName)) ∈ gtb := gtb_mem 630 (by decide +kernel) rfl
set_option maxRecDepth 20000 in
theorem kw_581 : (Jvm.Cond.code ({ cls := "ManyHands$Hand", name := "report", desc := "(I)I" } : Jvm.MethodName) prog_3_method_10_code (2 : Nat) (Option.some Jvm.ClassFile.FieldType.int)) ∈ gtb := gtb_mem 631 (by exact rfl) rfl
theorem kw_582 : (Jvm.Cond.methodLink "ManyHandsLaw" (90 : Nat) ({ cls := "ManyHands", name := "has", desc := "(II)I" } : Jvm.MethodName)) ∈ gtb := gtb_mem 632 (by decide +kernel) rfl
theorem kw_583 : (Jvm.Cond.instanceMethod ({ cls := "ManyHands", name := "has", desc := "(II)I" } : Jvm.MethodName)) ∈ gtb := gtb_mem 633 (by decide +kernel) rfl
theorem kw_584 : (Jvm.Cond.selects "ManyHands" ({ cls := "ManyHands", name := "has", desc := "(II)I" } : Jvm.MethodName) ({ cls := "ManyHands", name := "has", desc := "(II)I" } : Jvm.MethodName)) ∈ gtb := gtb_mem 634 (by decide +kernel) rfl
set_option maxRecDepth 20000 in
theorem kw_585 : (Jvm.Cond.code ({ cls := "ManyHands", name := "has", desc := "(II)I" } : Jvm.MethodName) prog_1_method_19_code (5 : Nat) (Option.some Jvm.ClassFile.FieldType.int)) ∈ gtb := gtb_mem 635 (by exact rfl) rfl
theorem kw_586 : (Jvm.Cond.methodLink "ManyHands" (169 : Nat) ({ cls := "ManyHands$Hand", name := "awaits", desc := "(LManyHands$Entry;)Z" } : Jvm.MethodName)) ∈ gtb := gtb_mem 636 (by decide +kernel) rfl
theorem kw_587 : (Jvm.Cond.methodLink "ManyHandsLaw" (94 : Nat) ({ cls := "ManyHands", name := "compare", desc := "(II)I" } : Jvm.MethodName)) ∈ gtb := gtb_mem 637 (by decide +kernel) rfl
theorem kw_588 : (Jvm.Cond.instanceMethod ({ cls := "ManyHands", name := "compare", desc := "(II)I" } : Jvm.MethodName)) ∈ gtb := gtb_mem 638 (by decide +kernel) rfl
theorem kw_589 : (Jvm.Cond.selects "ManyHands" ({ cls := "ManyHands", name := "compare", desc := "(II)I" } : Jvm.MethodName) ({ cls := "ManyHands", name := "compare", desc := "(II)I" } : Jvm.MethodName)) ∈ gtb := gtb_mem 639 (by decide +kernel) rfl
set_option maxRecDepth 20000 in
theorem kw_590 : (Jvm.Cond.code ({ cls := "ManyHands", name := "compare", desc := "(II)I" } : Jvm.MethodName) prog_1_method_20_code (7 : Nat) (Option.some Jvm.ClassFile.FieldType.int)) ∈ gtb := gtb_mem 640 (by exact rfl) rfl
theorem kw_591 : (Jvm.Cond.methodLink "ManyHands" (172 : Nat) ({ cls := "ManyHands$Reach", name := "covers", desc := "(LManyHands$Reach;)Z" } : Jvm.MethodName)) ∈ gtb := gtb_mem 641 (by decide +kernel) rfl
theorem kw_592 : (Jvm.Cond.methodLink "ManyHandsLaw" (98 : Nat) ({ cls := "ManyHands", name := "value", desc := "(II)I" } : Jvm.MethodName)) ∈ gtb := gtb_mem 642 (by decide +kernel) rfl
theorem kw_593 : (Jvm.Cond.instanceMethod ({ cls := "ManyHands", name := "value", desc := "(II)I" } : Jvm.MethodName)) ∈ gtb := gtb_mem 643 (by decide +kernel) rfl
theorem kw_594 : (Jvm.Cond.selects "ManyHands" ({ cls := "ManyHands", name := "value", desc := "(II)I" } : Jvm.MethodName) ({ cls := "ManyHands", name := "value", desc := "(II)I" } : Jvm.MethodName)) ∈ gtb := gtb_mem 644 (by decide +kernel) rfl
set_option maxRecDepth 20000 in
theorem kw_595 : (Jvm.Cond.code ({ cls := "ManyHands", name := "value", desc := "(II)I" } : Jvm.MethodName) prog_1_method_21_code (7 : Nat) (Option.some Jvm.ClassFile.FieldType.int)) ∈ gtb := gtb_mem 645 (by exact rfl) rfl
theorem kw_596 : (Jvm.Cond.methodLink "ManyHands" (179 : Nat) ({ cls := "ManyHands$Page", name := "foremost", desc := "(LManyHands$Reach;)LManyHands$Entry;" } : Jvm.MethodName)) ∈ gtb := gtb_mem 646 (by decide +kernel) rfl
theorem kw_597 : (Jvm.Cond.instanceMethod ({ cls := "ManyHands$Page", name := "foremost", desc := "(LManyHands$Reach;)LManyHands$Entry;" } : Jvm.MethodName)) ∈ gtb := gtb_mem 647 (by decide +kernel) rfl
theorem kw_598 : (Jvm.Cond.selects "ManyHands$Page" ({ cls := "ManyHands$Page", name := "foremost", desc := "(LManyHands$Reach;)LManyHands$Entry;" } : Jvm.MethodName) ({ cls := "ManyHands$Page", name := "foremost", desc := "(LManyHands$Reach;)LManyHands$Entry;" } : Jvm.MethodName)) ∈ gtb := gtb_mem 648 (by decide +kernel) rfl
set_option maxRecDepth 20000 in
theorem kw_599 : (Jvm.Cond.code ({ cls := "ManyHands$Page", name := "foremost", desc := "(LManyHands$Reach;)LManyHands$Entry;" } : Jvm.MethodName) prog_5_method_5_code (4 : Nat) (Option.some (Jvm.ClassFile.FieldType.object "ManyHands$Entry"))) ∈ gtb := gtb_mem 649 (by exact rfl) rfl
theorem kw_600 : (Jvm.Cond.methodLink "ManyHands$Page" (46 : Nat) ({ cls := "ManyHands$Entry", name := "isBelow", desc := "(LManyHands$Entry;)Z" } : Jvm.MethodName)) ∈ gtb := gtb_mem 650 (by decide +kernel) rfl
theorem kw_601 : (Jvm.Cond.methodLink "ManyHands" (188 : Nat) ({ cls := "ManyHands", name := "tellAnd", desc := "(JI)I" } : Jvm.MethodName)) ∈ gtb := gtb_mem 651 (by decide +kernel) rfl
theorem kw_603 : (Jvm.Cond.instanceMethod ({ cls := "ManyHands", name := "tellAnd", desc := "(JI)I" } : Jvm.MethodName)) ∈ gtb := gtb_mem 653 (by decide +kernel) rfl
set_option maxRecDepth 20000 in
theorem kw_604 : (Jvm.Cond.code ({ cls := "ManyHands", name := "tellAnd", desc := "(JI)I" } : Jvm.MethodName) prog_1_method_50_code (4 : Nat) (Option.some Jvm.ClassFile.FieldType.int)) ∈ gtb := gtb_mem 654 (by exact rfl) rfl
theorem kw_605 : (Jvm.Cond.methodLink "ManyHandsLaw" (102 : Nat) ({ cls := "ManyHands", name := "sum", desc := "(II)I" } : Jvm.MethodName)) ∈ gtb := gtb_mem 655 (by decide +kernel) rfl
theorem kw_606 : (Jvm.Cond.instanceMethod ({ cls := "ManyHands", name := "sum", desc := "(II)I" } : Jvm.MethodName)) ∈ gtb := gtb_mem 656 (by decide +kernel) rfl
theorem kw_607 : (Jvm.Cond.selects "ManyHands" ({ cls := "ManyHands", name := "sum", desc := "(II)I" } : Jvm.MethodName) ({ cls := "ManyHands", name := "sum", desc := "(II)I" } : Jvm.MethodName)) ∈ gtb := gtb_mem 657 (by decide +kernel) rfl
set_option maxRecDepth 20000 in
theorem kw_608 : (Jvm.Cond.code ({ cls := "ManyHands", name := "sum", desc := "(II)I" } : Jvm.MethodName) prog_1_method_22_code (6 : Nat) (Option.some Jvm.ClassFile.FieldType.int)) ∈ gtb := gtb_mem 658 (by exact rfl) rfl
theorem kw_609 : (Jvm.Cond.methodLink "ManyHands" (192 : Nat) ({ cls := "ManyHands$Page", name := "total", desc := "(LManyHands$Reach;)J" } : Jvm.MethodName)) ∈ gtb := gtb_mem 659 (by decide +kernel) rfl
theorem kw_610 : (Jvm.Cond.instanceMethod ({ cls := "ManyHands$Page", name := "total", desc := "(LManyHands$Reach;)J" } : Jvm.MethodName)) ∈ gtb := gtb_mem 660 (by decide +kernel) rfl
theorem kw_611 : (Jvm.Cond.selects "ManyHands$Page" ({ cls := "ManyHands$Page", name := "total", desc := "(LManyHands$Reach;)J" } : Jvm.MethodName) ({ cls := "ManyHands$Page", name := "total", desc := "(LManyHands$Reach;)J" } : Jvm.MethodName)) ∈ gtb := gtb_mem 661 (by decide +kernel) rfl
set_option maxRecDepth 20000 in
theorem kw_612 : (Jvm.Cond.code ({ cls := "ManyHands$Page", name := "total", desc := "(LManyHands$Reach;)J" } : Jvm.MethodName) prog_5_method_8_code (5 : Nat) (Option.some Jvm.ClassFile.FieldType.long)) ∈ gtb := gtb_mem 662 (by exact rfl) rfl
theorem kw_613 : (Jvm.Cond.methodLink "ManyHands$Page" (56 : Nat) ({ cls := "ManyHands$Entry", name := "addedToSum", desc := "()J" } : Jvm.MethodName)) ∈ gtb := gtb_mem 663 (by decide +kernel) rfl
theorem kw_614 : (Jvm.Cond.instanceMethod ({ cls := "ManyHands$Entry", name := "addedToSum", desc := "()J" } : Jvm.MethodName)) ∈ gtb := gtb_mem 664 (by decide +kernel) rfl
theorem kw_615 : (Jvm.Cond.selects "ManyHands$Entry" ({ cls := "ManyHands$Entry", name := "addedToSum", desc := "()J" } : Jvm.MethodName) ({ cls := "ManyHands$Entry", name := "addedToSum", desc := "()J" } : Jvm.MethodName)) ∈ gtb := gtb_mem 665 (by decide +kernel) rfl
set_option maxRecDepth 20000 in
theorem kw_616 : (Jvm.Cond.code ({ cls := "ManyHands$Entry", name := "addedToSum", desc := "()J" } : Jvm.MethodName) prog_2_method_4_code (1 : Nat) (Option.some Jvm.ClassFile.FieldType.long)) ∈ gtb := gtb_mem 666 (by exact rfl) rfl
theorem kw_617 : (Jvm.Cond.methodLink "ManyHands" (196 : Nat) ({ cls := "ManyHands$Page", name := "size", desc := "(LManyHands$Reach;)I" } : Jvm.MethodName)) ∈ gtb := gtb_mem 667 (by decide +kernel) rfl
theorem kw_618 : (Jvm.Cond.instanceMethod ({ cls := "ManyHands$Page", name := "size", desc := "(LManyHands$Reach;)I" } : Jvm.MethodName)) ∈ gtb := gtb_mem 668 (by decide +kernel) rfl
theorem kw_619 : (Jvm.Cond.selects "ManyHands$Page" ({ cls := "ManyHands$Page", name := "size", desc := "(LManyHands$Reach;)I" } : Jvm.MethodName) ({ cls := "ManyHands$Page", name := "size", desc := "(LManyHands$Reach;)I" } : Jvm.MethodName)) ∈ gtb := gtb_mem 669 (by decide +kernel) rfl
set_option maxRecDepth 20000 in
theorem kw_620 : (Jvm.Cond.code ({ cls := "ManyHands$Page", name := "size", desc := "(LManyHands$Reach;)I" } : Jvm.MethodName) prog_5_method_6_code (4 : Nat) (Option.some Jvm.ClassFile.FieldType.int)) ∈ gtb := gtb_mem 670 (by exact rfl) rfl
theorem kw_621 : (Jvm.Cond.methodLink "ManyHandsLaw" (106 : Nat) ({ cls := "ManyHands", name := "mean", desc := "(II)I" } : Jvm.MethodName)) ∈ gtb := gtb_mem 671 (by decide +kernel) rfl
theorem kw_622 : (Jvm.Cond.instanceMethod ({ cls := "ManyHands", name := "mean", desc := "(II)I" } : Jvm.MethodName)) ∈ gtb := gtb_mem 672 (by decide +kernel) rfl
theorem kw_623 : (Jvm.Cond.selects "ManyHands" ({ cls := "ManyHands", name := "mean", desc := "(II)I" } : Jvm.MethodName) ({ cls := "ManyHands", name := "mean", desc := "(II)I" } : Jvm.MethodName)) ∈ gtb := gtb_mem 673 (by decide +kernel) rfl
set_option maxRecDepth 20000 in
theorem kw_624 : (Jvm.Cond.code ({ cls := "ManyHands", name := "mean", desc := "(II)I" } : Jvm.MethodName) prog_1_method_23_code (7 : Nat) (Option.some Jvm.ClassFile.FieldType.int)) ∈ gtb := gtb_mem 674 (by exact rfl) rfl
theorem kw_625 : (Jvm.Cond.methodLink "ManyHandsLaw" (110 : Nat) ({ cls := "ManyHands", name := "often", desc := "(III)I" } : Jvm.MethodName)) ∈ gtb := gtb_mem 675 (by decide +kernel) rfl
theorem kw_626 : (Jvm.Cond.instanceMethod ({ cls := "ManyHands", name := "often", desc := "(III)I" } : Jvm.MethodName)) ∈ gtb := gtb_mem 676 (by decide +kernel) rfl
theorem kw_627 : (Jvm.Cond.selects "ManyHands" ({ cls := "ManyHands", name := "often", desc := "(III)I" } : Jvm.MethodName) ({ cls := "ManyHands", name := "often", desc := "(III)I" } : Jvm.MethodName)) ∈ gtb := gtb_mem 677 (by decide +kernel) rfl
set_option maxRecDepth 20000 in
theorem kw_628 : (Jvm.Cond.code ({ cls := "ManyHands", name := "often", desc := "(III)I" } : Jvm.MethodName) prog_1_method_24_code (7 : Nat) (Option.some Jvm.ClassFile.FieldType.int)) ∈ gtb := gtb_mem 678 (by exact rfl) rfl
theorem kw_629 : (Jvm.Cond.methodLink "ManyHandsLaw" (114 : Nat) ({ cls := "ManyHands", name := "inside", desc := "(III)I" } : Jvm.MethodName)) ∈ gtb := gtb_mem 679 (by decide +kernel) rfl
theorem kw_630 : (Jvm.Cond.instanceMethod ({ cls := "ManyHands", name := "inside", desc := "(III)I" } : Jvm.MethodName)) ∈ gtb := gtb_mem 680 (by decide +kernel) rfl
theorem kw_631 : (Jvm.Cond.selects "ManyHands" ({ cls := "ManyHands", name := "inside", desc := "(III)I" } : Jvm.MethodName) ({ cls := "ManyHands", name := "inside", desc := "(III)I" } : Jvm.MethodName)) ∈ gtb := gtb_mem 681 (by decide +kernel) rfl
set_option maxRecDepth 20000 in
theorem kw_632 : (Jvm.Cond.code ({ cls := "ManyHands", name := "inside", desc := "(III)I" } : Jvm.MethodName) prog_1_method_25_code (8 : Nat) (Option.some Jvm.ClassFile.FieldType.int)) ∈ gtb := gtb_mem 682 (by exact rfl) rfl
theorem kw_633 : (Jvm.Cond.methodLink "ManyHands" (199 : Nat) ({ cls := "ManyHands$Page", name := "thingAt", desc := "(LManyHands$Reach;I)I" } : Jvm.MethodName)) ∈ gtb := gtb_mem 683 (by decide +kernel) rfl
theorem kw_634 : (Jvm.Cond.instanceMethod ({ cls := "ManyHands$Page", name := "thingAt", desc := "(LManyHands$Reach;I)I" } : Jvm.MethodName)) ∈ gtb := gtb_mem 684 (by decide +kernel) rfl
theorem kw_635 : (Jvm.Cond.selects "ManyHands$Page" ({ cls := "ManyHands$Page", name := "thingAt", desc := "(LManyHands$Reach;I)I" } : Jvm.MethodName) ({ cls := "ManyHands$Page", name := "thingAt", desc := "(LManyHands$Reach;I)I" } : Jvm.MethodName)) ∈ gtb := gtb_mem 685 (by decide +kernel) rfl
set_option maxRecDepth 20000 in
theorem kw_636 : (Jvm.Cond.code ({ cls := "ManyHands$Page", name := "thingAt", desc := "(LManyHands$Reach;I)I" } : Jvm.MethodName) prog_5_method_13_code (5 : Nat) (Option.some Jvm.ClassFile.FieldType.int)) ∈ gtb := gtb_mem 686 (by exact rfl) rfl
theorem kw_637 : (Jvm.Cond.methodLink "ManyHands$Page" (80 : Nat) ({ cls := "ManyHands$Page", name := "timesIn", desc := "(LManyHands$Reach;I)I" } : Jvm.MethodName)) ∈ gtb := gtb_mem 687 (by decide +kernel) rfl
theorem kw_638 : (Jvm.Cond.methodLink "ManyHandsLaw" (118 : Nat) ({ cls := "ManyHands", name := "heads", desc := "(II)I" } : Jvm.MethodName)) ∈ gtb := gtb_mem 688 (by decide +kernel) rfl
theorem kw_639 : (Jvm.Cond.instanceMethod ({ cls := "ManyHands", name := "heads", desc := "(II)I" } : Jvm.MethodName)) ∈ gtb := gtb_mem 689 (by decide +kernel) rfl
theorem kw_640 : (Jvm.Cond.selects "ManyHands" ({ cls := "ManyHands", name := "heads", desc := "(II)I" } : Jvm.MethodName) ({ cls := "ManyHands", name := "heads", desc := "(II)I" } : Jvm.MethodName)) ∈ gtb := gtb_mem 690 (by decide +kernel) rfl
set_option maxRecDepth 20000 in
theorem kw_641 : (Jvm.Cond.code ({ cls := "ManyHands", name := "heads", desc := "(II)I" } : Jvm.MethodName) prog_1_method_26_code (6 : Nat) (Option.some Jvm.ClassFile.FieldType.int)) ∈ gtb := gtb_mem 691 (by exact rfl) rfl
theorem kw_642 : (Jvm.Cond.methodLink "ManyHands" (202 : Nat) ({ cls := "ManyHands$Page", name := "headCount", desc := "(LManyHands$Reach;)I" } : Jvm.MethodName)) ∈ gtb := gtb_mem 692 (by decide +kernel) rfl
theorem kw_643 : (Jvm.Cond.instanceMethod ({ cls := "ManyHands$Page", name := "headCount", desc := "(LManyHands$Reach;)I" } : Jvm.MethodName)) ∈ gtb := gtb_mem 693 (by decide +kernel) rfl
theorem kw_644 : (Jvm.Cond.selects "ManyHands$Page" ({ cls := "ManyHands$Page", name := "headCount", desc := "(LManyHands$Reach;)I" } : Jvm.MethodName) ({ cls := "ManyHands$Page", name := "headCount", desc := "(LManyHands$Reach;)I" } : Jvm.MethodName)) ∈ gtb := gtb_mem 694 (by decide +kernel) rfl
set_option maxRecDepth 20000 in
theorem kw_645 : (Jvm.Cond.code ({ cls := "ManyHands$Page", name := "headCount", desc := "(LManyHands$Reach;)I" } : Jvm.MethodName) prog_5_method_14_code (2 : Nat) (Option.some Jvm.ClassFile.FieldType.int)) ∈ gtb := gtb_mem 695 (by exact rfl) rfl
theorem kw_646 : (Jvm.Cond.methodLink "ManyHandsLaw" (122 : Nat) ({ cls := "ManyHands", name := "head", desc := "(III)I" } : Jvm.MethodName)) ∈ gtb := gtb_mem 696 (by decide +kernel) rfl
theorem kw_647 : (Jvm.Cond.instanceMethod ({ cls := "ManyHands", name := "head", desc := "(III)I" } : Jvm.MethodName)) ∈ gtb := gtb_mem 697 (by decide +kernel) rfl
theorem kw_648 : (Jvm.Cond.selects "ManyHands" ({ cls := "ManyHands", name := "head", desc := "(III)I" } : Jvm.MethodName) ({ cls := "ManyHands", name := "head", desc := "(III)I" } : Jvm.MethodName)) ∈ gtb := gtb_mem 698 (by decide +kernel) rfl
set_option maxRecDepth 20000 in
theorem kw_649 : (Jvm.Cond.code ({ cls := "ManyHands", name := "head", desc := "(III)I" } : Jvm.MethodName) prog_1_method_27_code (8 : Nat) (Option.some Jvm.ClassFile.FieldType.int)) ∈ gtb := gtb_mem 699 (by exact rfl) rfl
theorem kw_650 : (Jvm.Cond.methodLink "ManyHands" (205 : Nat) ({ cls := "ManyHands$Page", name := "headAt", desc := "(LManyHands$Reach;I)LManyHands$Entry;" } : Jvm.MethodName)) ∈ gtb := gtb_mem 700 (by decide +kernel) rfl
theorem kw_651 : (Jvm.Cond.instanceMethod ({ cls := "ManyHands$Page", name := "headAt", desc := "(LManyHands$Reach;I)LManyHands$Entry;" } : Jvm.MethodName)) ∈ gtb := gtb_mem 701 (by decide +kernel) rfl
theorem kw_652 : (Jvm.Cond.selects "ManyHands$Page" ({ cls := "ManyHands$Page", name := "headAt", desc := "(LManyHands$Reach;I)LManyHands$Entry;" } : Jvm.MethodName) ({ cls := "ManyHands$Page", name := "headAt", desc := "(LManyHands$Reach;I)LManyHands$Entry;" } : Jvm.MethodName)) ∈ gtb := gtb_mem 702 (by decide +kernel) rfl
set_option maxRecDepth 20000 in
theorem kw_653 : (Jvm.Cond.code ({ cls := "ManyHands$Page", name := "headAt", desc := "(LManyHands$Reach;I)LManyHands$Entry;" } : Jvm.MethodName) prog_5_method_15_code (5 : Nat) (Option.some (Jvm.ClassFile.FieldType.object "ManyHands$Entry"))) ∈ gtb := gtb_mem 703 (by exact rfl) rfl
theorem kw_654 : (Jvm.Cond.methodLink "ManyHands$Page" (84 : Nat) ({ cls := "ManyHands$Page", name := "headCount", desc := "(LManyHands$Reach;)I" } : Jvm.MethodName)) ∈ gtb := gtb_mem 704 (by decide +kernel) rfl
theorem kw_655 : (Jvm.Cond.methodLink "ManyHands$Page" (88 : Nat) ({ cls := "ManyHands$Page", name := "headAbove", desc := "(LManyHands$Reach;LManyHands$Entry;)LManyHands$Entry;" } : Jvm.MethodName)) ∈ gtb := gtb_mem 705 (by decide +kernel) rfl
theorem kw_657 : (Jvm.Cond.instanceMethod ({ cls := "ManyHands$Page", name := "headAbove", desc := "(LManyHands$Reach;LManyHands$Entry;)LManyHands$Entry;" } : Jvm.MethodName)) ∈ gtb := gtb_mem 707 (by decide +kernel) rfl
set_option maxRecDepth 20000 in
theorem kw_658 : (Jvm.Cond.code ({ cls := "ManyHands$Page", name := "headAbove", desc := "(LManyHands$Reach;LManyHands$Entry;)LManyHands$Entry;" } : Jvm.MethodName) prog_5_method_16_code (6 : Nat) (Option.some (Jvm.ClassFile.FieldType.object "ManyHands$Entry"))) ∈ gtb := gtb_mem 708 (by exact rfl) rfl
theorem kw_659 : (Jvm.Cond.methodLink "ManyHandsLaw" (126 : Nat) ({ cls := "ManyHands", name := "rights", desc := "(III)I" } : Jvm.MethodName)) ∈ gtb := gtb_mem 709 (by decide +kernel) rfl
theorem kw_660 : (Jvm.Cond.instanceMethod ({ cls := "ManyHands", name := "rights", desc := "(III)I" } : Jvm.MethodName)) ∈ gtb := gtb_mem 710 (by decide +kernel) rfl
theorem kw_661 : (Jvm.Cond.selects "ManyHands" ({ cls := "ManyHands", name := "rights", desc := "(III)I" } : Jvm.MethodName) ({ cls := "ManyHands", name := "rights", desc := "(III)I" } : Jvm.MethodName)) ∈ gtb := gtb_mem 711 (by decide +kernel) rfl
set_option maxRecDepth 20000 in
theorem kw_662 : (Jvm.Cond.code ({ cls := "ManyHands", name := "rights", desc := "(III)I" } : Jvm.MethodName) prog_1_method_28_code (7 : Nat) (Option.some Jvm.ClassFile.FieldType.int)) ∈ gtb := gtb_mem 712 (by exact rfl) rfl
theorem kw_663 : (Jvm.Cond.methodLink "ManyHandsLaw" (130 : Nat) ({ cls := "ManyHands", name := "up", desc := "(II)I" } : Jvm.MethodName)) ∈ gtb := gtb_mem 713 (by decide +kernel) rfl
theorem kw_664 : (Jvm.Cond.instanceMethod ({ cls := "ManyHands", name := "up", desc := "(II)I" } : Jvm.MethodName)) ∈ gtb := gtb_mem 714 (by decide +kernel) rfl
theorem kw_665 : (Jvm.Cond.selects "ManyHands" ({ cls := "ManyHands", name := "up", desc := "(II)I" } : Jvm.MethodName) ({ cls := "ManyHands", name := "up", desc := "(II)I" } : Jvm.MethodName)) ∈ gtb := gtb_mem 715 (by decide +kernel) rfl
set_option maxRecDepth 20000 in
theorem kw_666 : (Jvm.Cond.code ({ cls := "ManyHands", name := "up", desc := "(II)I" } : Jvm.MethodName) prog_1_method_29_code (6 : Nat) (Option.some Jvm.ClassFile.FieldType.int)) ∈ gtb := gtb_mem 716 (by exact rfl) rfl
theorem kw_667 : (Jvm.Cond.methodLink "ManyHands" (213 : Nat) ({ cls := "ManyHands$Page", name := "isUp", desc := "(LManyHands$Reach;)Z" } : Jvm.MethodName)) ∈ gtb := gtb_mem 717 (by decide +kernel) rfl
theorem kw_668 : (Jvm.Cond.instanceMethod ({ cls := "ManyHands$Page", name := "isUp", desc := "(LManyHands$Reach;)Z" } : Jvm.MethodName)) ∈ gtb := gtb_mem 718 (by decide +kernel) rfl
theorem kw_669 : (Jvm.Cond.selects "ManyHands$Page" ({ cls := "ManyHands$Page", name := "isUp", desc := "(LManyHands$Reach;)Z" } : Jvm.MethodName) ({ cls := "ManyHands$Page", name := "isUp", desc := "(LManyHands$Reach;)Z" } : Jvm.MethodName)) ∈ gtb := gtb_mem 719 (by decide +kernel) rfl
set_option maxRecDepth 20000 in
theorem kw_670 : (Jvm.Cond.code ({ cls := "ManyHands$Page", name := "isUp", desc := "(LManyHands$Reach;)Z" } : Jvm.MethodName) prog_5_method_17_code (2 : Nat) (Option.some Jvm.ClassFile.FieldType.boolean)) ∈ gtb := gtb_mem 720 (by exact rfl) rfl
theorem kw_671 : (Jvm.Cond.methodLink "ManyHands$Page" (92 : Nat) ({ cls := "ManyHands$Page", name := "sizeOf", desc := "(LManyHands$Reach;I)I" } : Jvm.MethodName)) ∈ gtb := gtb_mem 721 (by decide +kernel) rfl
theorem kw_672 : (Jvm.Cond.instanceMethod ({ cls := "ManyHands$Page", name := "sizeOf", desc := "(LManyHands$Reach;I)I" } : Jvm.MethodName)) ∈ gtb := gtb_mem 722 (by decide +kernel) rfl
theorem kw_673 : (Jvm.Cond.selects "ManyHands$Page" ({ cls := "ManyHands$Page", name := "sizeOf", desc := "(LManyHands$Reach;I)I" } : Jvm.MethodName) ({ cls := "ManyHands$Page", name := "sizeOf", desc := "(LManyHands$Reach;I)I" } : Jvm.MethodName)) ∈ gtb := gtb_mem 723 (by decide +kernel) rfl
set_option maxRecDepth 20000 in
theorem kw_674 : (Jvm.Cond.code ({ cls := "ManyHands$Page", name := "sizeOf", desc := "(LManyHands$Reach;I)I" } : Jvm.MethodName) prog_5_method_7_code (5 : Nat) (Option.some Jvm.ClassFile.FieldType.int)) ∈ gtb := gtb_mem 724 (by exact rfl) rfl
theorem kw_675 : (Jvm.Cond.methodLink "ManyHandsLaw" (134 : Nat) ({ cls := "ManyHands", name := "alike", desc := "(III)I" } : Jvm.MethodName)) ∈ gtb := gtb_mem 725 (by decide +kernel) rfl
theorem kw_676 : (Jvm.Cond.instanceMethod ({ cls := "ManyHands", name := "alike", desc := "(III)I" } : Jvm.MethodName)) ∈ gtb := gtb_mem 726 (by decide +kernel) rfl
theorem kw_677 : (Jvm.Cond.selects "ManyHands" ({ cls := "ManyHands", name := "alike", desc := "(III)I" } : Jvm.MethodName) ({ cls := "ManyHands", name := "alike", desc := "(III)I" } : Jvm.MethodName)) ∈ gtb := gtb_mem 727 (by decide +kernel) rfl
set_option maxRecDepth 20000 in
theorem kw_678 : (Jvm.Cond.code ({ cls := "ManyHands", name := "alike", desc := "(III)I" } : Jvm.MethodName) prog_1_method_30_code (7 : Nat) (Option.some Jvm.ClassFile.FieldType.int)) ∈ gtb := gtb_mem 728 (by exact rfl) rfl
theorem kw_679 : (Jvm.Cond.methodLink "ManyHands" (216 : Nat) ({ cls := "ManyHands$Page", name := "tell", desc := "(LManyHands$Reach;LManyHands$Telling;)V" } : Jvm.MethodName)) ∈ gtb := gtb_mem 729 (by decide +kernel) rfl
theorem kw_680 : (Jvm.Cond.instanceMethod ({ cls := "ManyHands$Page", name := "tell", desc := "(LManyHands$Reach;LManyHands$Telling;)V" } : Jvm.MethodName)) ∈ gtb := gtb_mem 730 (by decide +kernel) rfl
theorem kw_681 : (Jvm.Cond.selects "ManyHands$Page" ({ cls := "ManyHands$Page", name := "tell", desc := "(LManyHands$Reach;LManyHands$Telling;)V" } : Jvm.MethodName) ({ cls := "ManyHands$Page", name := "tell", desc := "(LManyHands$Reach;LManyHands$Telling;)V" } : Jvm.MethodName)) ∈ gtb := gtb_mem 731 (by decide +kernel) rfl
set_option maxRecDepth 20000 in
theorem kw_682 : (Jvm.Cond.code ({ cls := "ManyHands$Page", name := "tell", desc := "(LManyHands$Reach;LManyHands$Telling;)V" } : Jvm.MethodName) prog_5_method_18_code (4 : Nat) (Option.none : Option Jvm.ClassFile.FieldType)) ∈ gtb := gtb_mem 732 (by exact rfl) rfl
theorem kw_683 : (Jvm.Cond.methodLink "ManyHands$Page" (100 : Nat) ({ cls := "ManyHands$Page", name := "tellLast", desc := "(LManyHands$Reach;LManyHands$Telling;)V" } : Jvm.MethodName)) ∈ gtb := gtb_mem 733 (by decide +kernel) rfl
theorem kw_685 : (Jvm.Cond.instanceMethod ({ cls := "ManyHands$Page", name := "tellLast", desc := "(LManyHands$Reach;LManyHands$Telling;)V" } : Jvm.MethodName)) ∈ gtb := gtb_mem 735 (by decide +kernel) rfl
set_option maxRecDepth 20000 in
theorem kw_686 : (Jvm.Cond.code ({ cls := "ManyHands$Page", name := "tellLast", desc := "(LManyHands$Reach;LManyHands$Telling;)V" } : Jvm.MethodName) prog_5_method_19_code (6 : Nat) (Option.none : Option Jvm.ClassFile.FieldType)) ∈ gtb := gtb_mem 736 (by exact rfl) rfl
theorem kw_687 : (Jvm.Cond.methodLink "ManyHands$Page" (119 : Nat) ({ cls := "ManyHands$Page", name := "foremost", desc := "(LManyHands$Reach;)LManyHands$Entry;" } : Jvm.MethodName)) ∈ gtb := gtb_mem 737 (by decide +kernel) rfl
theorem kw_688 : (Jvm.Cond.constantLong "ManyHands$Page" (123 : Nat) (-9 : Int64)) ∈ gtb := gtb_mem 738 (by decide +kernel) rfl
theorem kw_689 : (Jvm.Cond.methodLink "ManyHands$Page" (107 : Nat) ({ cls := "ManyHands$Telling", name := "say", desc := "(J)V" } : Jvm.MethodName)) ∈ gtb := gtb_mem 739 (by decide +kernel) rfl
theorem kw_690 : (Jvm.Cond.instanceMethod ({ cls := "ManyHands$Telling", name := "say", desc := "(J)V" } : Jvm.MethodName)) ∈ gtb := gtb_mem 740 (by decide +kernel) rfl
theorem kw_691 : (Jvm.Cond.selects "ManyHands$Telling" ({ cls := "ManyHands$Telling", name := "say", desc := "(J)V" } : Jvm.MethodName) ({ cls := "ManyHands$Telling", name := "say", desc := "(J)V" } : Jvm.MethodName)) ∈ gtb := gtb_mem 741 (by decide +kernel) rfl
set_option maxRecDepth 20000 in
theorem kw_692 : (Jvm.Cond.code ({ cls := "ManyHands$Telling", name := "say", desc := "(J)V" } : Jvm.MethodName) prog_7_method_2_code (3 : Nat) (Option.none : Option Jvm.ClassFile.FieldType)) ∈ gtb := gtb_mem 742 (by exact rfl) rfl
theorem kw_693 : (Jvm.Cond.methodLink "ManyHands$Page" (104 : Nat) ({ cls := "ManyHands$Page", name := "tellTally", desc := "(LManyHands$Reach;LManyHands$Telling;)V" } : Jvm.MethodName)) ∈ gtb := gtb_mem 743 (by decide +kernel) rfl
theorem kw_695 : (Jvm.Cond.instanceMethod ({ cls := "ManyHands$Page", name := "tellTally", desc := "(LManyHands$Reach;LManyHands$Telling;)V" } : Jvm.MethodName)) ∈ gtb := gtb_mem 745 (by decide +kernel) rfl
set_option maxRecDepth 20000 in
theorem kw_696 : (Jvm.Cond.code ({ cls := "ManyHands$Page", name := "tellTally", desc := "(LManyHands$Reach;LManyHands$Telling;)V" } : Jvm.MethodName) prog_5_method_20_code (4 : Nat) (Option.none : Option Jvm.ClassFile.FieldType)) ∈ gtb := gtb_mem 746 (by exact rfl) rfl
theorem kw_697 : (Jvm.Cond.methodLink "ManyHands$Page" (130 : Nat) ({ cls := "ManyHands$Page", name := "total", desc := "(LManyHands$Reach;)J" } : Jvm.MethodName)) ∈ gtb := gtb_mem 747 (by decide +kernel) rfl
theorem kw_698 : (Jvm.Cond.methodLink "ManyHands$Page" (134 : Nat) ({ cls := "ManyHands$Page", name := "size", desc := "(LManyHands$Reach;)I" } : Jvm.MethodName)) ∈ gtb := gtb_mem 748 (by decide +kernel) rfl
theorem kw_699 : (Jvm.Cond.methodLink "ManyHands$Page" (136 : Nat) ({ cls := "ManyHands$Page", name := "rightsOf", desc := "(LManyHands$Reach;I)J" } : Jvm.MethodName)) ∈ gtb := gtb_mem 749 (by decide +kernel) rfl
theorem kw_700 : (Jvm.Cond.methodLink "ManyHands$Page" (111 : Nat) ({ cls := "ManyHands$Page", name := "isUp", desc := "(LManyHands$Reach;)Z" } : Jvm.MethodName)) ∈ gtb := gtb_mem 750 (by decide +kernel) rfl
theorem kw_702 : (Jvm.Cond.methodLink "ManyHands" (220 : Nat) ({ cls := "ManyHands$Telling", name := "same", desc := "(LManyHands$Telling;)Z" } : Jvm.MethodName)) ∈ gtb := gtb_mem 752 (by decide +kernel) rfl
theorem kw_703 : (Jvm.Cond.instanceMethod ({ cls := "ManyHands$Telling", name := "same", desc := "(LManyHands$Telling;)Z" } : Jvm.MethodName)) ∈ gtb := gtb_mem 753 (by decide +kernel) rfl
theorem kw_704 : (Jvm.Cond.selects "ManyHands$Telling" ({ cls := "ManyHands$Telling", name := "same", desc := "(LManyHands$Telling;)Z" } : Jvm.MethodName) ({ cls := "ManyHands$Telling", name := "same", desc := "(LManyHands$Telling;)Z" } : Jvm.MethodName)) ∈ gtb := gtb_mem 754 (by decide +kernel) rfl
set_option maxRecDepth 20000 in
theorem kw_705 : (Jvm.Cond.code ({ cls := "ManyHands$Telling", name := "same", desc := "(LManyHands$Telling;)Z" } : Jvm.MethodName) prog_7_method_3_code (3 : Nat) (Option.some Jvm.ClassFile.FieldType.boolean)) ∈ gtb := gtb_mem 755 (by exact rfl) rfl
theorem kw_706 : (Jvm.Cond.methodLink "ManyHandsLaw" (138 : Nat) ({ cls := "ManyHands", name := "leaves", desc := "(II)I" } : Jvm.MethodName)) ∈ gtb := gtb_mem 756 (by decide +kernel) rfl
theorem kw_707 : (Jvm.Cond.instanceMethod ({ cls := "ManyHands", name := "leaves", desc := "(II)I" } : Jvm.MethodName)) ∈ gtb := gtb_mem 757 (by decide +kernel) rfl
theorem kw_708 : (Jvm.Cond.selects "ManyHands" ({ cls := "ManyHands", name := "leaves", desc := "(II)I" } : Jvm.MethodName) ({ cls := "ManyHands", name := "leaves", desc := "(II)I" } : Jvm.MethodName)) ∈ gtb := gtb_mem 758 (by decide +kernel) rfl
set_option maxRecDepth 20000 in
theorem kw_709 : (Jvm.Cond.code ({ cls := "ManyHands", name := "leaves", desc := "(II)I" } : Jvm.MethodName) prog_1_method_31_code (4 : Nat) (Option.some Jvm.ClassFile.FieldType.int)) ∈ gtb := gtb_mem 759 (by exact rfl) rfl
theorem kw_710 : (Jvm.Cond.methodLink "ManyHands" (228 : Nat) ({ cls := "ManyHands$LeafRow", name := "renew", desc := "(I)V" } : Jvm.MethodName)) ∈ gtb := gtb_mem 760 (by decide +kernel) rfl
theorem kw_711 : (Jvm.Cond.instanceMethod ({ cls := "ManyHands$LeafRow", name := "renew", desc := "(I)V" } : Jvm.MethodName)) ∈ gtb := gtb_mem 761 (by decide +kernel) rfl
theorem kw_712 : (Jvm.Cond.selects "ManyHands$LeafRow" ({ cls := "ManyHands$LeafRow", name := "renew", desc := "(I)V" } : Jvm.MethodName) ({ cls := "ManyHands$LeafRow", name := "renew", desc := "(I)V" } : Jvm.MethodName)) ∈ gtb := gtb_mem 762 (by decide +kernel) rfl
set_option maxRecDepth 20000 in
theorem kw_713 : (Jvm.Cond.code ({ cls := "ManyHands$LeafRow", name := "renew", desc := "(I)V" } : Jvm.MethodName) prog_4_method_2_code (3 : Nat) (Option.none : Option Jvm.ClassFile.FieldType)) ∈ gtb := gtb_mem 763 (by exact rfl) rfl
theorem kw_714 : (Jvm.Cond.methodLink "ManyHandsLaw" (142 : Nat) ({ cls := "ManyHands", name := "save", desc := "(II)I" } : Jvm.MethodName)) ∈ gtb := gtb_mem 764 (by decide +kernel) rfl
theorem kw_715 : (Jvm.Cond.instanceMethod ({ cls := "ManyHands", name := "save", desc := "(II)I" } : Jvm.MethodName)) ∈ gtb := gtb_mem 765 (by decide +kernel) rfl
theorem kw_716 : (Jvm.Cond.selects "ManyHands" ({ cls := "ManyHands", name := "save", desc := "(II)I" } : Jvm.MethodName) ({ cls := "ManyHands", name := "save", desc := "(II)I" } : Jvm.MethodName)) ∈ gtb := gtb_mem 766 (by decide +kernel) rfl
set_option maxRecDepth 20000 in
theorem kw_717 : (Jvm.Cond.code ({ cls := "ManyHands", name := "save", desc := "(II)I" } : Jvm.MethodName) prog_1_method_32_code (4 : Nat) (Option.some Jvm.ClassFile.FieldType.int)) ∈ gtb := gtb_mem 767 (by exact rfl) rfl
theorem kw_718 : (Jvm.Cond.methodLink "ManyHands" (233 : Nat) ({ cls := "ManyHands$LeafRow", name := "spans", desc := "(II)Z" } : Jvm.MethodName)) ∈ gtb := gtb_mem 768 (by decide +kernel) rfl
theorem kw_719 : (Jvm.Cond.instanceMethod ({ cls := "ManyHands$LeafRow", name := "spans", desc := "(II)Z" } : Jvm.MethodName)) ∈ gtb := gtb_mem 769 (by decide +kernel) rfl
theorem kw_720 : (Jvm.Cond.selects "ManyHands$LeafRow" ({ cls := "ManyHands$LeafRow", name := "spans", desc := "(II)Z" } : Jvm.MethodName) ({ cls := "ManyHands$LeafRow", name := "spans", desc := "(II)Z" } : Jvm.MethodName)) ∈ gtb := gtb_mem 770 (by decide +kernel) rfl
set_option maxRecDepth 20000 in
theorem kw_721 : (Jvm.Cond.code ({ cls := "ManyHands$LeafRow", name := "spans", desc := "(II)Z" } : Jvm.MethodName) prog_4_method_3_code (3 : Nat) (Option.some Jvm.ClassFile.FieldType.boolean)) ∈ gtb := gtb_mem 771 (by exact rfl) rfl
theorem kw_722 : (Jvm.Cond.methodLink "ManyHands" (240 : Nat) ({ cls := "ManyHands$LeafRow", name := "store", desc := "(IJ)V" } : Jvm.MethodName)) ∈ gtb := gtb_mem 772 (by decide +kernel) rfl
theorem kw_723 : (Jvm.Cond.instanceMethod ({ cls := "ManyHands$LeafRow", name := "store", desc := "(IJ)V" } : Jvm.MethodName)) ∈ gtb := gtb_mem 773 (by decide +kernel) rfl
theorem kw_724 : (Jvm.Cond.selects "ManyHands$LeafRow" ({ cls := "ManyHands$LeafRow", name := "store", desc := "(IJ)V" } : Jvm.MethodName) ({ cls := "ManyHands$LeafRow", name := "store", desc := "(IJ)V" } : Jvm.MethodName)) ∈ gtb := gtb_mem 774 (by decide +kernel) rfl
set_option maxRecDepth 20000 in
theorem kw_725 : (Jvm.Cond.code ({ cls := "ManyHands$LeafRow", name := "store", desc := "(IJ)V" } : Jvm.MethodName) prog_4_method_5_code (4 : Nat) (Option.none : Option Jvm.ClassFile.FieldType)) ∈ gtb := gtb_mem 775 (by exact rfl) rfl
theorem kw_726 : (Jvm.Cond.methodLink "ManyHandsLaw" (146 : Nat) ({ cls := "ManyHands", name := "tear", desc := "(II)I" } : Jvm.MethodName)) ∈ gtb := gtb_mem 776 (by decide +kernel) rfl
theorem kw_727 : (Jvm.Cond.instanceMethod ({ cls := "ManyHands", name := "tear", desc := "(II)I" } : Jvm.MethodName)) ∈ gtb := gtb_mem 777 (by decide +kernel) rfl
theorem kw_728 : (Jvm.Cond.selects "ManyHands" ({ cls := "ManyHands", name := "tear", desc := "(II)I" } : Jvm.MethodName) ({ cls := "ManyHands", name := "tear", desc := "(II)I" } : Jvm.MethodName)) ∈ gtb := gtb_mem 778 (by decide +kernel) rfl
set_option maxRecDepth 20000 in
theorem kw_729 : (Jvm.Cond.code ({ cls := "ManyHands", name := "tear", desc := "(II)I" } : Jvm.MethodName) prog_1_method_33_code (5 : Nat) (Option.some Jvm.ClassFile.FieldType.int)) ∈ gtb := gtb_mem 779 (by exact rfl) rfl
theorem kw_730 : (Jvm.Cond.methodLink "ManyHands" (244 : Nat) ({ cls := "ManyHands", name := "refusalToRead", desc := "(LManyHands$LeafRow;I)I" } : Jvm.MethodName)) ∈ gtb := gtb_mem 780 (by decide +kernel) rfl
theorem kw_732 : (Jvm.Cond.instanceMethod ({ cls := "ManyHands", name := "refusalToRead", desc := "(LManyHands$LeafRow;I)I" } : Jvm.MethodName)) ∈ gtb := gtb_mem 782 (by decide +kernel) rfl
set_option maxRecDepth 20000 in
theorem kw_733 : (Jvm.Cond.code ({ cls := "ManyHands", name := "refusalToRead", desc := "(LManyHands$LeafRow;I)I" } : Jvm.MethodName) prog_1_method_53_code (3 : Nat) (Option.some Jvm.ClassFile.FieldType.int)) ∈ gtb := gtb_mem 783 (by exact rfl) rfl
theorem kw_734 : (Jvm.Cond.methodLink "ManyHands" (285 : Nat) ({ cls := "ManyHands$LeafRow", name := "isThere", desc := "(I)Z" } : Jvm.MethodName)) ∈ gtb := gtb_mem 784 (by decide +kernel) rfl
theorem kw_735 : (Jvm.Cond.instanceMethod ({ cls := "ManyHands$LeafRow", name := "isThere", desc := "(I)Z" } : Jvm.MethodName)) ∈ gtb := gtb_mem 785 (by decide +kernel) rfl
theorem kw_736 : (Jvm.Cond.selects "ManyHands$LeafRow" ({ cls := "ManyHands$LeafRow", name := "isThere", desc := "(I)Z" } : Jvm.MethodName) ({ cls := "ManyHands$LeafRow", name := "isThere", desc := "(I)Z" } : Jvm.MethodName)) ∈ gtb := gtb_mem 786 (by decide +kernel) rfl
set_option maxRecDepth 20000 in
theorem kw_737 : (Jvm.Cond.code ({ cls := "ManyHands$LeafRow", name := "isThere", desc := "(I)Z" } : Jvm.MethodName) prog_4_method_4_code (2 : Nat) (Option.some Jvm.ClassFile.FieldType.boolean)) ∈ gtb := gtb_mem 787 (by exact rfl) rfl
theorem kw_738 : (Jvm.Cond.methodLink "ManyHands" (248 : Nat) ({ cls := "ManyHands$LeafRow", name := "drop", desc := "(I)V" } : Jvm.MethodName)) ∈ gtb := gtb_mem 788 (by decide +kernel) rfl
theorem kw_739 : (Jvm.Cond.instanceMethod ({ cls := "ManyHands$LeafRow", name := "drop", desc := "(I)V" } : Jvm.MethodName)) ∈ gtb := gtb_mem 789 (by decide +kernel) rfl
theorem kw_740 : (Jvm.Cond.selects "ManyHands$LeafRow" ({ cls := "ManyHands$LeafRow", name := "drop", desc := "(I)V" } : Jvm.MethodName) ({ cls := "ManyHands$LeafRow", name := "drop", desc := "(I)V" } : Jvm.MethodName)) ∈ gtb := gtb_mem 790 (by decide +kernel) rfl
set_option maxRecDepth 20000 in
theorem kw_741 : (Jvm.Cond.code ({ cls := "ManyHands$LeafRow", name := "drop", desc := "(I)V" } : Jvm.MethodName) prog_4_method_6_code (2 : Nat) (Option.none : Option Jvm.ClassFile.FieldType)) ∈ gtb := gtb_mem 791 (by exact rfl) rfl
theorem kw_742 : (Jvm.Cond.methodLink "ManyHandsLaw" (150 : Nat) ({ cls := "ManyHands", name := "leaf", desc := "(II)I" } : Jvm.MethodName)) ∈ gtb := gtb_mem 792 (by decide +kernel) rfl
theorem kw_743 : (Jvm.Cond.instanceMethod ({ cls := "ManyHands", name := "leaf", desc := "(II)I" } : Jvm.MethodName)) ∈ gtb := gtb_mem 793 (by decide +kernel) rfl
theorem kw_744 : (Jvm.Cond.selects "ManyHands" ({ cls := "ManyHands", name := "leaf", desc := "(II)I" } : Jvm.MethodName) ({ cls := "ManyHands", name := "leaf", desc := "(II)I" } : Jvm.MethodName)) ∈ gtb := gtb_mem 794 (by decide +kernel) rfl
set_option maxRecDepth 20000 in
theorem kw_745 : (Jvm.Cond.code ({ cls := "ManyHands", name := "leaf", desc := "(II)I" } : Jvm.MethodName) prog_1_method_34_code (5 : Nat) (Option.some Jvm.ClassFile.FieldType.int)) ∈ gtb := gtb_mem 795 (by exact rfl) rfl
theorem kw_746 : (Jvm.Cond.methodLink "ManyHandsLaw" (154 : Nat) ({ cls := "ManyHands", name := "copy", desc := "(IIIII)I" } : Jvm.MethodName)) ∈ gtb := gtb_mem 796 (by decide +kernel) rfl
theorem kw_747 : (Jvm.Cond.instanceMethod ({ cls := "ManyHands", name := "copy", desc := "(IIIII)I" } : Jvm.MethodName)) ∈ gtb := gtb_mem 797 (by decide +kernel) rfl
theorem kw_748 : (Jvm.Cond.selects "ManyHands" ({ cls := "ManyHands", name := "copy", desc := "(IIIII)I" } : Jvm.MethodName) ({ cls := "ManyHands", name := "copy", desc := "(IIIII)I" } : Jvm.MethodName)) ∈ gtb := gtb_mem 798 (by decide +kernel) rfl
set_option maxRecDepth 20000 in
theorem kw_749 : (Jvm.Cond.code ({ cls := "ManyHands", name := "copy", desc := "(IIIII)I" } : Jvm.MethodName) prog_1_method_35_code (8 : Nat) (Option.some Jvm.ClassFile.FieldType.int)) ∈ gtb := gtb_mem 799 (by exact rfl) rfl
theorem kw_750 : (Jvm.Cond.methodLink "ManyHands" (255 : Nat) ({ cls := "ManyHands$LeafRow", name := "copyTo", desc := "(ILManyHands$LeafRow;II)V" } : Jvm.MethodName)) ∈ gtb := gtb_mem 800 (by decide +kernel) rfl
theorem kw_751 : (Jvm.Cond.instanceMethod ({ cls := "ManyHands$LeafRow", name := "copyTo", desc := "(ILManyHands$LeafRow;II)V" } : Jvm.MethodName)) ∈ gtb := gtb_mem 801 (by decide +kernel) rfl
theorem kw_752 : (Jvm.Cond.selects "ManyHands$LeafRow" ({ cls := "ManyHands$LeafRow", name := "copyTo", desc := "(ILManyHands$LeafRow;II)V" } : Jvm.MethodName) ({ cls := "ManyHands$LeafRow", name := "copyTo", desc := "(ILManyHands$LeafRow;II)V" } : Jvm.MethodName)) ∈ gtb := gtb_mem 802 (by decide +kernel) rfl
set_option maxRecDepth 20000 in
theorem kw_753 : (Jvm.Cond.code ({ cls := "ManyHands$LeafRow", name := "copyTo", desc := "(ILManyHands$LeafRow;II)V" } : Jvm.MethodName) prog_4_method_7_code (5 : Nat) (Option.none : Option Jvm.ClassFile.FieldType)) ∈ gtb := gtb_mem 803 (by exact rfl) rfl
theorem kw_754 : (Jvm.Cond.methodLink "ManyHands$LeafRow" (23 : Nat) ({ cls := "java/lang/System", name := "arraycopy", desc := "(Ljava/lang/Object;ILjava/lang/Object;II)V" } : Jvm.MethodName)) ∈ gtb := gtb_mem 804 (by decide +kernel) rfl
theorem kw_755 : (Jvm.Cond.methodLink "ManyHandsLaw" (159 : Nat) ({ cls := "ManyHands", name := "asked", desc := "()J" } : Jvm.MethodName)) ∈ gtb := gtb_mem 805 (by decide +kernel) rfl
theorem kw_756 : (Jvm.Cond.instanceMethod ({ cls := "ManyHands", name := "asked", desc := "()J" } : Jvm.MethodName)) ∈ gtb := gtb_mem 806 (by decide +kernel) rfl
theorem kw_757 : (Jvm.Cond.selects "ManyHands" ({ cls := "ManyHands", name := "asked", desc := "()J" } : Jvm.MethodName) ({ cls := "ManyHands", name := "asked", desc := "()J" } : Jvm.MethodName)) ∈ gtb := gtb_mem 807 (by decide +kernel) rfl
set_option maxRecDepth 20000 in
theorem kw_758 : (Jvm.Cond.code ({ cls := "ManyHands", name := "asked", desc := "()J" } : Jvm.MethodName) prog_1_method_36_code (1 : Nat) (Option.some Jvm.ClassFile.FieldType.long)) ∈ gtb := gtb_mem 808 (by exact rfl) rfl
theorem kw_759 : (Jvm.Cond.methodLink "ManyHandsLaw" (164 : Nat) ({ cls := "ManyHands", name := "count", desc := "(I)I" } : Jvm.MethodName)) ∈ gtb := gtb_mem 809 (by decide +kernel) rfl
theorem kw_760 : (Jvm.Cond.instanceMethod ({ cls := "ManyHands", name := "count", desc := "(I)I" } : Jvm.MethodName)) ∈ gtb := gtb_mem 810 (by decide +kernel) rfl
theorem kw_761 : (Jvm.Cond.selects "ManyHands" ({ cls := "ManyHands", name := "count", desc := "(I)I" } : Jvm.MethodName) ({ cls := "ManyHands", name := "count", desc := "(I)I" } : Jvm.MethodName)) ∈ gtb := gtb_mem 811 (by decide +kernel) rfl
set_option maxRecDepth 20000 in
theorem kw_762 : (Jvm.Cond.code ({ cls := "ManyHands", name := "count", desc := "(I)I" } : Jvm.MethodName) prog_1_method_37_code (2 : Nat) (Option.some Jvm.ClassFile.FieldType.int)) ∈ gtb := gtb_mem 812 (by exact rfl) rfl
theorem kw_763 : (Jvm.Cond.methodLink "ManyHandsLaw" (168 : Nat) ({ cls := "ManyHands", name := "finding", desc := "()I" } : Jvm.MethodName)) ∈ gtb := gtb_mem 813 (by decide +kernel) rfl
theorem kw_764 : (Jvm.Cond.instanceMethod ({ cls := "ManyHands", name := "finding", desc := "()I" } : Jvm.MethodName)) ∈ gtb := gtb_mem 814 (by decide +kernel) rfl
theorem kw_765 : (Jvm.Cond.selects "ManyHands" ({ cls := "ManyHands", name := "finding", desc := "()I" } : Jvm.MethodName) ({ cls := "ManyHands", name := "finding", desc := "()I" } : Jvm.MethodName)) ∈ gtb := gtb_mem 815 (by decide +kernel) rfl
set_option maxRecDepth 20000 in
theorem kw_766 : (Jvm.Cond.code ({ cls := "ManyHands", name := "finding", desc := "()I" } : Jvm.MethodName) prog_1_method_38_code (1 : Nat) (Option.some Jvm.ClassFile.FieldType.int)) ∈ gtb := gtb_mem 816 (by exact rfl) rfl
theorem kw_767 : (Jvm.Cond.methodLink "ManyHandsLaw" (172 : Nat) ({ cls := "ManyHands", name := "findings", desc := "(I)I" } : Jvm.MethodName)) ∈ gtb := gtb_mem 817 (by decide +kernel) rfl
theorem kw_768 : (Jvm.Cond.instanceMethod ({ cls := "ManyHands", name := "findings", desc := "(I)I" } : Jvm.MethodName)) ∈ gtb := gtb_mem 818 (by decide +kernel) rfl
theorem kw_769 : (Jvm.Cond.selects "ManyHands" ({ cls := "ManyHands", name := "findings", desc := "(I)I" } : Jvm.MethodName) ({ cls := "ManyHands", name := "findings", desc := "(I)I" } : Jvm.MethodName)) ∈ gtb := gtb_mem 819 (by decide +kernel) rfl
set_option maxRecDepth 20000 in
theorem kw_770 : (Jvm.Cond.code ({ cls := "ManyHands", name := "findings", desc := "(I)I" } : Jvm.MethodName) prog_1_method_39_code (2 : Nat) (Option.some Jvm.ClassFile.FieldType.int)) ∈ gtb := gtb_mem 820 (by exact rfl) rfl
theorem kw_771 : (Jvm.Cond.methodLink "ManyHandsLaw" (176 : Nat) ({ cls := "ManyHands", name := "digest", desc := "(I)J" } : Jvm.MethodName)) ∈ gtb := gtb_mem 821 (by decide +kernel) rfl
theorem kw_772 : (Jvm.Cond.instanceMethod ({ cls := "ManyHands", name := "digest", desc := "(I)J" } : Jvm.MethodName)) ∈ gtb := gtb_mem 822 (by decide +kernel) rfl
theorem kw_773 : (Jvm.Cond.selects "ManyHands" ({ cls := "ManyHands", name := "digest", desc := "(I)J" } : Jvm.MethodName) ({ cls := "ManyHands", name := "digest", desc := "(I)J" } : Jvm.MethodName)) ∈ gtb := gtb_mem 823 (by decide +kernel) rfl
set_option maxRecDepth 20000 in
theorem kw_774 : (Jvm.Cond.code ({ cls := "ManyHands", name := "digest", desc := "(I)J" } : Jvm.MethodName) prog_1_method_40_code (7 : Nat) (Option.some Jvm.ClassFile.FieldType.long)) ∈ gtb := gtb_mem 824 (by exact rfl) rfl
theorem kw_775 : (Jvm.Cond.constantLong "ManyHands" (263 : Nat) (17 : Int64)) ∈ gtb := gtb_mem 825 (by decide +kernel) rfl
theorem kw_776 : (Jvm.Cond.methodLink "ManyHands" (265 : Nat) ({ cls := "ManyHands", name := "folded", desc := "(JJ)J" } : Jvm.MethodName)) ∈ gtb := gtb_mem 826 (by decide +kernel) rfl
theorem kw_777 : (Jvm.Cond.static ({ cls := "ManyHands", name := "folded", desc := "(JJ)J" } : Jvm.MethodName)) ∈ gtb := gtb_mem 827 (by decide +kernel) rfl
set_option maxRecDepth 20000 in
theorem kw_778 : (Jvm.Cond.code ({ cls := "ManyHands", name := "folded", desc := "(JJ)J" } : Jvm.MethodName) prog_1_method_48_code (4 : Nat) (Option.some Jvm.ClassFile.FieldType.long)) ∈ gtb := gtb_mem 828 (by exact rfl) rfl
theorem kw_779 : (Jvm.Cond.constantLong "ManyHands" (280 : Nat) (31 : Int64)) ∈ gtb := gtb_mem 829 (by decide +kernel) rfl
theorem kw_780 : (Jvm.Cond.methodLink "ManyHands" (269 : Nat) ({ cls := "ManyHands$Telling", name := "foldedOnto", desc := "(J)J" } : Jvm.MethodName)) ∈ gtb := gtb_mem 830 (by decide +kernel) rfl
theorem kw_781 : (Jvm.Cond.instanceMethod ({ cls := "ManyHands$Telling", name := "foldedOnto", desc := "(J)J" } : Jvm.MethodName)) ∈ gtb := gtb_mem 831 (by decide +kernel) rfl
theorem kw_782 : (Jvm.Cond.selects "ManyHands$Telling" ({ cls := "ManyHands$Telling", name := "foldedOnto", desc := "(J)J" } : Jvm.MethodName) ({ cls := "ManyHands$Telling", name := "foldedOnto", desc := "(J)J" } : Jvm.MethodName)) ∈ gtb := gtb_mem 832 (by decide +kernel) rfl
set_option maxRecDepth 20000 in
theorem kw_783 : (Jvm.Cond.code ({ cls := "ManyHands$Telling", name := "foldedOnto", desc := "(J)J" } : Jvm.MethodName) prog_7_method_4_code (6 : Nat) (Option.some Jvm.ClassFile.FieldType.long)) ∈ gtb := gtb_mem 833 (by exact rfl) rfl
theorem kw_785 : (Jvm.Cond.methodLink "ManyHands" (273 : Nat) ({ cls := "ManyHands$LeafRow", name := "foldedOnto", desc := "(J)J" } : Jvm.MethodName)) ∈ gtb := gtb_mem 835 (by decide +kernel) rfl
theorem kw_786 : (Jvm.Cond.instanceMethod ({ cls := "ManyHands$LeafRow", name := "foldedOnto", desc := "(J)J" } : Jvm.MethodName)) ∈ gtb := gtb_mem 836 (by decide +kernel) rfl
theorem kw_787 : (Jvm.Cond.selects "ManyHands$LeafRow" ({ cls := "ManyHands$LeafRow", name := "foldedOnto", desc := "(J)J" } : Jvm.MethodName) ({ cls := "ManyHands$LeafRow", name := "foldedOnto", desc := "(J)J" } : Jvm.MethodName)) ∈ gtb := gtb_mem 837 (by decide +kernel) rfl
set_option maxRecDepth 20000 in
theorem kw_788 : (Jvm.Cond.code ({ cls := "ManyHands$LeafRow", name := "foldedOnto", desc := "(J)J" } : Jvm.MethodName) prog_4_method_8_code (6 : Nat) (Option.some Jvm.ClassFile.FieldType.long)) ∈ gtb := gtb_mem 838 (by exact rfl) rfl
theorem kw_790 : (Jvm.Cond.methodLink "ManyHands$LeafRow" (33 : Nat) ({ cls := "ManyHands$LeafRow", name := "isThere", desc := "(I)Z" } : Jvm.MethodName)) ∈ gtb := gtb_mem 840 (by decide +kernel) rfl
theorem kw_791 : (Jvm.Cond.classLink "ManyHandsLaw" (10 : Nat) "ManyHandsModel") ∈ gtb := gtb_mem 841 (by decide +kernel) rfl
theorem kw_792 : (Jvm.Cond.instantiable "ManyHandsModel" (28 : Nat)) ∈ gtb := gtb_mem 842 (by decide +kernel) rfl
theorem kw_793 : (Jvm.Cond.methodLink "ManyHandsLaw" (12 : Nat) ({ cls := "ManyHandsModel", name := "<init>", desc := "()V" } : Jvm.MethodName)) ∈ gtb := gtb_mem 843 (by decide +kernel) rfl
theorem kw_794 : (Jvm.Cond.instanceMethod ({ cls := "ManyHandsModel", name := "<init>", desc := "()V" } : Jvm.MethodName)) ∈ gtb := gtb_mem 844 (by decide +kernel) rfl
set_option maxRecDepth 20000 in
theorem kw_795 : (Jvm.Cond.code ({ cls := "ManyHandsModel", name := "<init>", desc := "()V" } : Jvm.MethodName) prog_9_method_1_code (1 : Nat) (Option.none : Option Jvm.ClassFile.FieldType)) ∈ gtb := gtb_mem 845 (by exact rfl) rfl
theorem kw_796 : (Jvm.Cond.methodLink "ManyHandsModel" (1 : Nat) ({ cls := "java/lang/Object", name := "<init>", desc := "()V" } : Jvm.MethodName)) ∈ gtb := gtb_mem 846 (by decide +kernel) rfl
theorem kw_797 : (Jvm.Cond.fieldLink "ManyHandsModel" (78 : Nat) "ManyHandsModel" "latest" "I") ∈ gtb := gtb_mem 847 (by decide +kernel) rfl
theorem kw_798 : (Jvm.Cond.fieldLink "ManyHandsModel" (7 : Nat) "ManyHandsModel" "came" "[I") ∈ gtb := gtb_mem 848 (by decide +kernel) rfl
theorem kw_799 : (Jvm.Cond.fieldLink "ManyHandsModel" (95 : Nat) "ManyHandsModel" "hands" "I") ∈ gtb := gtb_mem 849 (by decide +kernel) rfl
theorem kw_800 : (Jvm.Cond.fieldLink "ManyHandsModel" (13 : Nat) "ManyHandsModel" "has" "[J") ∈ gtb := gtb_mem 850 (by decide +kernel) rfl
theorem kw_801 : (Jvm.Cond.fieldLink "ManyHandsModel" (17 : Nat) "ManyHandsModel" "waits" "[J") ∈ gtb := gtb_mem 851 (by decide +kernel) rfl
theorem kw_802 : (Jvm.Cond.fieldLink "ManyHandsModel" (20 : Nat) "ManyHandsModel" "skips" "[Z") ∈ gtb := gtb_mem 852 (by decide +kernel) rfl
theorem kw_803 : (Jvm.Cond.fieldLink "ManyHandsModel" (24 : Nat) "ManyHandsModel" "madeBy" "[I") ∈ gtb := gtb_mem 853 (by decide +kernel) rfl
theorem kw_804 : (Jvm.Cond.fieldLink "ManyHandsModel" (98 : Nat) "ManyHandsModel" "pages" "I") ∈ gtb := gtb_mem 854 (by decide +kernel) rfl
theorem kw_805 : (Jvm.Cond.fieldLink "ManyHandsModel" (27 : Nat) "ManyHandsModel" "kindOf" "[I") ∈ gtb := gtb_mem 855 (by decide +kernel) rfl
theorem kw_806 : (Jvm.Cond.fieldLink "ManyHandsModel" (88 : Nat) "ManyHandsModel" "changes" "I") ∈ gtb := gtb_mem 856 (by decide +kernel) rfl
theorem kw_807 : (Jvm.Cond.fieldLink "ManyHandsModel" (30 : Nat) "ManyHandsModel" "handOf" "[I") ∈ gtb := gtb_mem 857 (by decide +kernel) rfl
theorem kw_808 : (Jvm.Cond.fieldLink "ManyHandsModel" (33 : Nat) "ManyHandsModel" "pageOf" "[I") ∈ gtb := gtb_mem 858 (by decide +kernel) rfl
theorem kw_809 : (Jvm.Cond.fieldLink "ManyHandsModel" (36 : Nat) "ManyHandsModel" "countOf" "[I") ∈ gtb := gtb_mem 859 (by decide +kernel) rfl
theorem kw_810 : (Jvm.Cond.fieldLink "ManyHandsModel" (39 : Nat) "ManyHandsModel" "doing" "[I") ∈ gtb := gtb_mem 860 (by decide +kernel) rfl
theorem kw_811 : (Jvm.Cond.fieldLink "ManyHandsModel" (42 : Nat) "ManyHandsModel" "one" "[I") ∈ gtb := gtb_mem 861 (by decide +kernel) rfl
theorem kw_812 : (Jvm.Cond.fieldLink "ManyHandsModel" (45 : Nat) "ManyHandsModel" "two" "[I") ∈ gtb := gtb_mem 862 (by decide +kernel) rfl
theorem kw_813 : (Jvm.Cond.fieldLink "ManyHandsModel" (48 : Nat) "ManyHandsModel" "valueOf" "[J") ∈ gtb := gtb_mem 863 (by decide +kernel) rfl
theorem kw_814 : (Jvm.Cond.fieldLink "ManyHandsModel" (51 : Nat) "ManyHandsModel" "knows" "[J") ∈ gtb := gtb_mem 864 (by decide +kernel) rfl
theorem kw_815 : (Jvm.Cond.fieldLink "ManyHandsModel" (204 : Nat) "ManyHandsModel" "asked" "J") ∈ gtb := gtb_mem 865 (by decide +kernel) rfl
theorem kw_816 : (Jvm.Cond.fieldLink "ManyHandsModel" (54 : Nat) "ManyHandsModel" "heads" "[I") ∈ gtb := gtb_mem 866 (by decide +kernel) rfl
theorem kw_817 : (Jvm.Cond.fieldLink "ManyHandsModel" (189 : Nat) "ManyHandsModel" "headMany" "I") ∈ gtb := gtb_mem 867 (by decide +kernel) rfl
theorem kw_818 : (Jvm.Cond.fieldLink "ManyHandsModel" (57 : Nat) "ManyHandsModel" "row" "[J") ∈ gtb := gtb_mem 868 (by decide +kernel) rfl
theorem kw_819 : (Jvm.Cond.fieldLink "ManyHandsModel" (60 : Nat) "ManyHandsModel" "other" "[J") ∈ gtb := gtb_mem 869 (by decide +kernel) rfl
theorem kw_820 : (Jvm.Cond.fieldLink "ManyHandsModel" (63 : Nat) "ManyHandsModel" "leafMany" "[I") ∈ gtb := gtb_mem 870 (by decide +kernel) rfl
theorem kw_821 : (Jvm.Cond.fieldLink "ManyHandsModel" (66 : Nat) "ManyHandsModel" "isThere" "[Z") ∈ gtb := gtb_mem 871 (by decide +kernel) rfl
theorem kw_822 : (Jvm.Cond.fieldLink "ManyHandsModel" (69 : Nat) "ManyHandsModel" "leaf" "[J") ∈ gtb := gtb_mem 872 (by decide +kernel) rfl
theorem kw_823 : (Jvm.Cond.fieldLink "ManyHandsModel" (72 : Nat) "ManyHandsModel" "copied" "[J") ∈ gtb := gtb_mem 873 (by decide +kernel) rfl
theorem kw_824 : (Jvm.Cond.fieldLink "ManyHandsModel" (75 : Nat) "ManyHandsModel" "copiedThere" "[Z") ∈ gtb := gtb_mem 874 (by decide +kernel) rfl
theorem kw_825 : (Jvm.Cond.lays "ManyHandsModel" "ManyHandsModel" "latest" "I") ∈ gtb := gtb_mem 875 (by decide +kernel) rfl
theorem kw_827 : (Jvm.Cond.laysFinal "ManyHandsModel" "ManyHandsModel" "came" "[I") ∈ gtb := gtb_mem 877 (by decide +kernel) rfl
theorem kw_829 : (Jvm.Cond.lays "ManyHandsModel" "ManyHandsModel" "hands" "I") ∈ gtb := gtb_mem 879 (by decide +kernel) rfl
theorem kw_831 : (Jvm.Cond.laysFinal "ManyHandsModel" "ManyHandsModel" "has" "[J") ∈ gtb := gtb_mem 881 (by decide +kernel) rfl
theorem kw_833 : (Jvm.Cond.laysFinal "ManyHandsModel" "ManyHandsModel" "waits" "[J") ∈ gtb := gtb_mem 883 (by decide +kernel) rfl
theorem kw_835 : (Jvm.Cond.laysFinal "ManyHandsModel" "ManyHandsModel" "skips" "[Z") ∈ gtb := gtb_mem 885 (by decide +kernel) rfl
theorem kw_837 : (Jvm.Cond.laysFinal "ManyHandsModel" "ManyHandsModel" "madeBy" "[I") ∈ gtb := gtb_mem 887 (by decide +kernel) rfl
theorem kw_839 : (Jvm.Cond.lays "ManyHandsModel" "ManyHandsModel" "pages" "I") ∈ gtb := gtb_mem 889 (by decide +kernel) rfl
theorem kw_841 : (Jvm.Cond.laysFinal "ManyHandsModel" "ManyHandsModel" "kindOf" "[I") ∈ gtb := gtb_mem 891 (by decide +kernel) rfl
theorem kw_843 : (Jvm.Cond.lays "ManyHandsModel" "ManyHandsModel" "changes" "I") ∈ gtb := gtb_mem 893 (by decide +kernel) rfl
theorem kw_845 : (Jvm.Cond.laysFinal "ManyHandsModel" "ManyHandsModel" "handOf" "[I") ∈ gtb := gtb_mem 895 (by decide +kernel) rfl
theorem kw_847 : (Jvm.Cond.laysFinal "ManyHandsModel" "ManyHandsModel" "pageOf" "[I") ∈ gtb := gtb_mem 897 (by decide +kernel) rfl
theorem kw_849 : (Jvm.Cond.laysFinal "ManyHandsModel" "ManyHandsModel" "countOf" "[I") ∈ gtb := gtb_mem 899 (by decide +kernel) rfl
theorem kw_851 : (Jvm.Cond.laysFinal "ManyHandsModel" "ManyHandsModel" "doing" "[I") ∈ gtb := gtb_mem 901 (by decide +kernel) rfl
theorem kw_853 : (Jvm.Cond.laysFinal "ManyHandsModel" "ManyHandsModel" "one" "[I") ∈ gtb := gtb_mem 903 (by decide +kernel) rfl
theorem kw_855 : (Jvm.Cond.laysFinal "ManyHandsModel" "ManyHandsModel" "two" "[I") ∈ gtb := gtb_mem 905 (by decide +kernel) rfl
theorem kw_857 : (Jvm.Cond.laysFinal "ManyHandsModel" "ManyHandsModel" "valueOf" "[J") ∈ gtb := gtb_mem 907 (by decide +kernel) rfl
theorem kw_859 : (Jvm.Cond.laysFinal "ManyHandsModel" "ManyHandsModel" "knows" "[J") ∈ gtb := gtb_mem 909 (by decide +kernel) rfl
theorem kw_861 : (Jvm.Cond.lays "ManyHandsModel" "ManyHandsModel" "asked" "J") ∈ gtb := gtb_mem 911 (by decide +kernel) rfl
theorem kw_863 : (Jvm.Cond.laysFinal "ManyHandsModel" "ManyHandsModel" "heads" "[I") ∈ gtb := gtb_mem 913 (by decide +kernel) rfl
theorem kw_865 : (Jvm.Cond.lays "ManyHandsModel" "ManyHandsModel" "headMany" "I") ∈ gtb := gtb_mem 915 (by decide +kernel) rfl
theorem kw_867 : (Jvm.Cond.laysFinal "ManyHandsModel" "ManyHandsModel" "row" "[J") ∈ gtb := gtb_mem 917 (by decide +kernel) rfl
theorem kw_869 : (Jvm.Cond.laysFinal "ManyHandsModel" "ManyHandsModel" "other" "[J") ∈ gtb := gtb_mem 919 (by decide +kernel) rfl
theorem kw_871 : (Jvm.Cond.laysFinal "ManyHandsModel" "ManyHandsModel" "leafMany" "[I") ∈ gtb := gtb_mem 921 (by decide +kernel) rfl
theorem kw_873 : (Jvm.Cond.laysFinal "ManyHandsModel" "ManyHandsModel" "isThere" "[Z") ∈ gtb := gtb_mem 923 (by decide +kernel) rfl
theorem kw_875 : (Jvm.Cond.laysFinal "ManyHandsModel" "ManyHandsModel" "leaf" "[J") ∈ gtb := gtb_mem 925 (by decide +kernel) rfl
theorem kw_877 : (Jvm.Cond.laysFinal "ManyHandsModel" "ManyHandsModel" "copied" "[J") ∈ gtb := gtb_mem 927 (by decide +kernel) rfl
theorem kw_879 : (Jvm.Cond.laysFinal "ManyHandsModel" "ManyHandsModel" "copiedThere" "[Z") ∈ gtb := gtb_mem 929 (by decide +kernel) rfl
theorem kw_882 : (Jvm.Cond.methodLink "ManyHandsLaw" (171 : Nat) ({ cls := "ManyHandsModel", name := "finding", desc := "()I" } : Jvm.MethodName)) ∈ gtb := gtb_mem 932 (by decide +kernel) rfl
theorem kw_883 : (Jvm.Cond.instanceMethod ({ cls := "ManyHandsModel", name := "finding", desc := "()I" } : Jvm.MethodName)) ∈ gtb := gtb_mem 933 (by decide +kernel) rfl
theorem kw_884 : (Jvm.Cond.selects "ManyHandsModel" ({ cls := "ManyHandsModel", name := "finding", desc := "()I" } : Jvm.MethodName) ({ cls := "ManyHandsModel", name := "finding", desc := "()I" } : Jvm.MethodName)) ∈ gtb := gtb_mem 934 (by decide +kernel) rfl
set_option maxRecDepth 20000 in
theorem kw_885 : (Jvm.Cond.code ({ cls := "ManyHandsModel", name := "finding", desc := "()I" } : Jvm.MethodName) prog_9_method_4_code (1 : Nat) (Option.some Jvm.ClassFile.FieldType.int)) ∈ gtb := gtb_mem 935 (by exact rfl) rfl
theorem kw_886 : (Jvm.Cond.methodLink "ManyHandsLaw" (175 : Nat) ({ cls := "ManyHandsModel", name := "findings", desc := "(I)I" } : Jvm.MethodName)) ∈ gtb := gtb_mem 936 (by decide +kernel) rfl
theorem kw_887 : (Jvm.Cond.instanceMethod ({ cls := "ManyHandsModel", name := "findings", desc := "(I)I" } : Jvm.MethodName)) ∈ gtb := gtb_mem 937 (by decide +kernel) rfl
theorem kw_888 : (Jvm.Cond.selects "ManyHandsModel" ({ cls := "ManyHandsModel", name := "findings", desc := "(I)I" } : Jvm.MethodName) ({ cls := "ManyHandsModel", name := "findings", desc := "(I)I" } : Jvm.MethodName)) ∈ gtb := gtb_mem 938 (by decide +kernel) rfl
set_option maxRecDepth 20000 in
theorem kw_889 : (Jvm.Cond.code ({ cls := "ManyHandsModel", name := "findings", desc := "(I)I" } : Jvm.MethodName) prog_9_method_5_code (2 : Nat) (Option.some Jvm.ClassFile.FieldType.int)) ∈ gtb := gtb_mem 939 (by exact rfl) rfl
theorem kw_890 : (Jvm.Cond.methodLink "ManyHandsModel" (82 : Nat) ({ cls := "ManyHandsModel", name := "in", desc := "(III)Z" } : Jvm.MethodName)) ∈ gtb := gtb_mem 940 (by decide +kernel) rfl
theorem kw_891 : (Jvm.Cond.static ({ cls := "ManyHandsModel", name := "in", desc := "(III)Z" } : Jvm.MethodName)) ∈ gtb := gtb_mem 941 (by decide +kernel) rfl
set_option maxRecDepth 20000 in
theorem kw_892 : (Jvm.Cond.code ({ cls := "ManyHandsModel", name := "in", desc := "(III)Z" } : Jvm.MethodName) prog_9_method_2_code (3 : Nat) (Option.some Jvm.ClassFile.FieldType.boolean)) ∈ gtb := gtb_mem 942 (by exact rfl) rfl
theorem kw_893 : (Jvm.Cond.methodLink "ManyHandsLaw" (17 : Nat) ({ cls := "ManyHandsModel", name := "hand", desc := "()I" } : Jvm.MethodName)) ∈ gtb := gtb_mem 943 (by decide +kernel) rfl
theorem kw_894 : (Jvm.Cond.instanceMethod ({ cls := "ManyHandsModel", name := "hand", desc := "()I" } : Jvm.MethodName)) ∈ gtb := gtb_mem 944 (by decide +kernel) rfl
theorem kw_895 : (Jvm.Cond.selects "ManyHandsModel" ({ cls := "ManyHandsModel", name := "hand", desc := "()I" } : Jvm.MethodName) ({ cls := "ManyHandsModel", name := "hand", desc := "()I" } : Jvm.MethodName)) ∈ gtb := gtb_mem 945 (by decide +kernel) rfl
set_option maxRecDepth 20000 in
theorem kw_896 : (Jvm.Cond.code ({ cls := "ManyHandsModel", name := "hand", desc := "()I" } : Jvm.MethodName) prog_9_method_15_code (1 : Nat) (Option.some Jvm.ClassFile.FieldType.int)) ∈ gtb := gtb_mem 946 (by exact rfl) rfl
theorem kw_897 : (Jvm.Cond.methodLink "ManyHandsLaw" (22 : Nat) ({ cls := "ManyHandsModel", name := "page", desc := "(I)I" } : Jvm.MethodName)) ∈ gtb := gtb_mem 947 (by decide +kernel) rfl
theorem kw_898 : (Jvm.Cond.instanceMethod ({ cls := "ManyHandsModel", name := "page", desc := "(I)I" } : Jvm.MethodName)) ∈ gtb := gtb_mem 948 (by decide +kernel) rfl
theorem kw_899 : (Jvm.Cond.selects "ManyHandsModel" ({ cls := "ManyHandsModel", name := "page", desc := "(I)I" } : Jvm.MethodName) ({ cls := "ManyHandsModel", name := "page", desc := "(I)I" } : Jvm.MethodName)) ∈ gtb := gtb_mem 949 (by decide +kernel) rfl
set_option maxRecDepth 20000 in
theorem kw_900 : (Jvm.Cond.code ({ cls := "ManyHandsModel", name := "page", desc := "(I)I" } : Jvm.MethodName) prog_9_method_16_code (2 : Nat) (Option.some Jvm.ClassFile.FieldType.int)) ∈ gtb := gtb_mem 950 (by exact rfl) rfl
theorem kw_901 : (Jvm.Cond.methodLink "ManyHandsLaw" (27 : Nat) ({ cls := "ManyHandsModel", name := "is", desc := "(II)I" } : Jvm.MethodName)) ∈ gtb := gtb_mem 951 (by decide +kernel) rfl
theorem kw_902 : (Jvm.Cond.instanceMethod ({ cls := "ManyHandsModel", name := "is", desc := "(II)I" } : Jvm.MethodName)) ∈ gtb := gtb_mem 952 (by decide +kernel) rfl
theorem kw_903 : (Jvm.Cond.selects "ManyHandsModel" ({ cls := "ManyHandsModel", name := "is", desc := "(II)I" } : Jvm.MethodName) ({ cls := "ManyHandsModel", name := "is", desc := "(II)I" } : Jvm.MethodName)) ∈ gtb := gtb_mem 953 (by decide +kernel) rfl
set_option maxRecDepth 20000 in
theorem kw_904 : (Jvm.Cond.code ({ cls := "ManyHandsModel", name := "is", desc := "(II)I" } : Jvm.MethodName) prog_9_method_18_code (3 : Nat) (Option.some Jvm.ClassFile.FieldType.int)) ∈ gtb := gtb_mem 954 (by exact rfl) rfl
theorem kw_905 : (Jvm.Cond.methodLink "ManyHandsModel" (101 : Nat) ({ cls := "ManyHandsModel", name := "isPage", desc := "(I)Z" } : Jvm.MethodName)) ∈ gtb := gtb_mem 955 (by decide +kernel) rfl
theorem kw_907 : (Jvm.Cond.instanceMethod ({ cls := "ManyHandsModel", name := "isPage", desc := "(I)Z" } : Jvm.MethodName)) ∈ gtb := gtb_mem 957 (by decide +kernel) rfl
set_option maxRecDepth 20000 in
theorem kw_908 : (Jvm.Cond.code ({ cls := "ManyHandsModel", name := "isPage", desc := "(I)Z" } : Jvm.MethodName) prog_9_method_13_code (2 : Nat) (Option.some Jvm.ClassFile.FieldType.boolean)) ∈ gtb := gtb_mem 958 (by exact rfl) rfl
theorem kw_909 : (Jvm.Cond.methodLink "ManyHandsModel" (105 : Nat) ({ cls := "ManyHandsModel", name := "isOf", desc := "(II)Z" } : Jvm.MethodName)) ∈ gtb := gtb_mem 959 (by decide +kernel) rfl
theorem kw_911 : (Jvm.Cond.instanceMethod ({ cls := "ManyHandsModel", name := "isOf", desc := "(II)Z" } : Jvm.MethodName)) ∈ gtb := gtb_mem 961 (by decide +kernel) rfl
set_option maxRecDepth 20000 in
theorem kw_912 : (Jvm.Cond.code ({ cls := "ManyHandsModel", name := "isOf", desc := "(II)Z" } : Jvm.MethodName) prog_9_method_17_code (4 : Nat) (Option.some Jvm.ClassFile.FieldType.boolean)) ∈ gtb := gtb_mem 962 (by exact rfl) rfl
theorem kw_913 : (Jvm.Cond.methodLink "ManyHandsLaw" (32 : Nat) ({ cls := "ManyHandsModel", name := "keep", desc := "(IIZ)I" } : Jvm.MethodName)) ∈ gtb := gtb_mem 963 (by decide +kernel) rfl
theorem kw_914 : (Jvm.Cond.instanceMethod ({ cls := "ManyHandsModel", name := "keep", desc := "(IIZ)I" } : Jvm.MethodName)) ∈ gtb := gtb_mem 964 (by decide +kernel) rfl
theorem kw_915 : (Jvm.Cond.selects "ManyHandsModel" ({ cls := "ManyHandsModel", name := "keep", desc := "(IIZ)I" } : Jvm.MethodName) ({ cls := "ManyHandsModel", name := "keep", desc := "(IIZ)I" } : Jvm.MethodName)) ∈ gtb := gtb_mem 965 (by decide +kernel) rfl
set_option maxRecDepth 20000 in
theorem kw_916 : (Jvm.Cond.code ({ cls := "ManyHandsModel", name := "keep", desc := "(IIZ)I" } : Jvm.MethodName) prog_9_method_19_code (5 : Nat) (Option.some Jvm.ClassFile.FieldType.int)) ∈ gtb := gtb_mem 966 (by exact rfl) rfl
theorem kw_917 : (Jvm.Cond.methodLink "ManyHandsModel" (109 : Nat) ({ cls := "ManyHandsModel", name := "isHand", desc := "(I)Z" } : Jvm.MethodName)) ∈ gtb := gtb_mem 967 (by decide +kernel) rfl
theorem kw_919 : (Jvm.Cond.instanceMethod ({ cls := "ManyHandsModel", name := "isHand", desc := "(I)Z" } : Jvm.MethodName)) ∈ gtb := gtb_mem 969 (by decide +kernel) rfl
set_option maxRecDepth 20000 in
theorem kw_920 : (Jvm.Cond.code ({ cls := "ManyHandsModel", name := "isHand", desc := "(I)Z" } : Jvm.MethodName) prog_9_method_12_code (2 : Nat) (Option.some Jvm.ClassFile.FieldType.boolean)) ∈ gtb := gtb_mem 970 (by exact rfl) rfl
theorem kw_921 : (Jvm.Cond.methodLink "ManyHandsLaw" (39 : Nat) ({ cls := "ManyHandsModel", name := "write", desc := "(IIJ)I" } : Jvm.MethodName)) ∈ gtb := gtb_mem 971 (by decide +kernel) rfl
theorem kw_922 : (Jvm.Cond.instanceMethod ({ cls := "ManyHandsModel", name := "write", desc := "(IIJ)I" } : Jvm.MethodName)) ∈ gtb := gtb_mem 972 (by decide +kernel) rfl
theorem kw_923 : (Jvm.Cond.selects "ManyHandsModel" ({ cls := "ManyHandsModel", name := "write", desc := "(IIJ)I" } : Jvm.MethodName) ({ cls := "ManyHandsModel", name := "write", desc := "(IIJ)I" } : Jvm.MethodName)) ∈ gtb := gtb_mem 973 (by decide +kernel) rfl
set_option maxRecDepth 20000 in
theorem kw_924 : (Jvm.Cond.code ({ cls := "ManyHandsModel", name := "write", desc := "(IIJ)I" } : Jvm.MethodName) prog_9_method_26_code (6 : Nat) (Option.some Jvm.ClassFile.FieldType.int)) ∈ gtb := gtb_mem 974 (by exact rfl) rfl
theorem kw_925 : (Jvm.Cond.methodLink "ManyHandsModel" (130 : Nat) ({ cls := "ManyHandsModel", name := "needMake", desc := "(ZIII)I" } : Jvm.MethodName)) ∈ gtb := gtb_mem 975 (by decide +kernel) rfl
theorem kw_927 : (Jvm.Cond.instanceMethod ({ cls := "ManyHandsModel", name := "needMake", desc := "(ZIII)I" } : Jvm.MethodName)) ∈ gtb := gtb_mem 977 (by decide +kernel) rfl
set_option maxRecDepth 20000 in
theorem kw_928 : (Jvm.Cond.code ({ cls := "ManyHandsModel", name := "needMake", desc := "(ZIII)I" } : Jvm.MethodName) prog_9_method_23_code (5 : Nat) (Option.some Jvm.ClassFile.FieldType.int)) ∈ gtb := gtb_mem 978 (by exact rfl) rfl
theorem kw_929 : (Jvm.Cond.methodLink "ManyHandsModel" (112 : Nat) ({ cls := "ManyHandsModel", name := "ownOf", desc := "(I)I" } : Jvm.MethodName)) ∈ gtb := gtb_mem 979 (by decide +kernel) rfl
theorem kw_931 : (Jvm.Cond.instanceMethod ({ cls := "ManyHandsModel", name := "ownOf", desc := "(I)I" } : Jvm.MethodName)) ∈ gtb := gtb_mem 981 (by decide +kernel) rfl
set_option maxRecDepth 20000 in
theorem kw_932 : (Jvm.Cond.code ({ cls := "ManyHandsModel", name := "ownOf", desc := "(I)I" } : Jvm.MethodName) prog_9_method_22_code (4 : Nat) (Option.some Jvm.ClassFile.FieldType.int)) ∈ gtb := gtb_mem 982 (by exact rfl) rfl
theorem kw_933 : (Jvm.Cond.methodLink "ManyHandsModel" (91 : Nat) ({ cls := "ManyHandsModel", name := "isIn", desc := "([JII)Z" } : Jvm.MethodName)) ∈ gtb := gtb_mem 983 (by decide +kernel) rfl
theorem kw_934 : (Jvm.Cond.static ({ cls := "ManyHandsModel", name := "isIn", desc := "([JII)Z" } : Jvm.MethodName)) ∈ gtb := gtb_mem 984 (by decide +kernel) rfl
set_option maxRecDepth 20000 in
theorem kw_935 : (Jvm.Cond.code ({ cls := "ManyHandsModel", name := "isIn", desc := "([JII)Z" } : Jvm.MethodName) prog_9_method_6_code (3 : Nat) (Option.some Jvm.ClassFile.FieldType.boolean)) ∈ gtb := gtb_mem 985 (by exact rfl) rfl
theorem kw_936 : (Jvm.Cond.methodLink "ManyHandsModel" (116 : Nat) ({ cls := "ManyHandsModel", name := "needSee", desc := "(III)I" } : Jvm.MethodName)) ∈ gtb := gtb_mem 986 (by decide +kernel) rfl
theorem kw_938 : (Jvm.Cond.instanceMethod ({ cls := "ManyHandsModel", name := "needSee", desc := "(III)I" } : Jvm.MethodName)) ∈ gtb := gtb_mem 988 (by decide +kernel) rfl
set_option maxRecDepth 20000 in
theorem kw_939 : (Jvm.Cond.code ({ cls := "ManyHandsModel", name := "needSee", desc := "(III)I" } : Jvm.MethodName) prog_9_method_24_code (4 : Nat) (Option.some Jvm.ClassFile.FieldType.int)) ∈ gtb := gtb_mem 989 (by exact rfl) rfl
theorem kw_940 : (Jvm.Cond.methodLink "ManyHandsModel" (120 : Nat) ({ cls := "ManyHandsModel", name := "meets", desc := "(I)I" } : Jvm.MethodName)) ∈ gtb := gtb_mem 990 (by decide +kernel) rfl
theorem kw_942 : (Jvm.Cond.instanceMethod ({ cls := "ManyHandsModel", name := "meets", desc := "(I)I" } : Jvm.MethodName)) ∈ gtb := gtb_mem 992 (by decide +kernel) rfl
set_option maxRecDepth 20000 in
theorem kw_943 : (Jvm.Cond.code ({ cls := "ManyHandsModel", name := "meets", desc := "(I)I" } : Jvm.MethodName) prog_9_method_3_code (2 : Nat) (Option.some Jvm.ClassFile.FieldType.int)) ∈ gtb := gtb_mem 993 (by exact rfl) rfl
theorem kw_944 : (Jvm.Cond.methodLink "ManyHandsModel" (134 : Nat) ({ cls := "ManyHandsModel", name := "make", desc := "(IIIIIJ)I" } : Jvm.MethodName)) ∈ gtb := gtb_mem 994 (by decide +kernel) rfl
theorem kw_946 : (Jvm.Cond.instanceMethod ({ cls := "ManyHandsModel", name := "make", desc := "(IIIIIJ)I" } : Jvm.MethodName)) ∈ gtb := gtb_mem 996 (by decide +kernel) rfl
set_option maxRecDepth 20000 in
theorem kw_947 : (Jvm.Cond.code ({ cls := "ManyHandsModel", name := "make", desc := "(IIIIIJ)I" } : Jvm.MethodName) prog_9_method_25_code (11 : Nat) (Option.some Jvm.ClassFile.FieldType.int)) ∈ gtb := gtb_mem 997 (by exact rfl) rfl
theorem kw_948 : (Jvm.Cond.methodLink "ManyHandsModel" (123 : Nat) ({ cls := "ManyHandsModel", name := "greatestCount", desc := "(I)I" } : Jvm.MethodName)) ∈ gtb := gtb_mem 998 (by decide +kernel) rfl
theorem kw_950 : (Jvm.Cond.instanceMethod ({ cls := "ManyHandsModel", name := "greatestCount", desc := "(I)I" } : Jvm.MethodName)) ∈ gtb := gtb_mem 1000 (by decide +kernel) rfl
set_option maxRecDepth 20000 in
theorem kw_951 : (Jvm.Cond.code ({ cls := "ManyHandsModel", name := "greatestCount", desc := "(I)I" } : Jvm.MethodName) prog_9_method_21_code (4 : Nat) (Option.some Jvm.ClassFile.FieldType.int)) ∈ gtb := gtb_mem 1001 (by exact rfl) rfl
theorem kw_952 : (Jvm.Cond.methodLink "ManyHandsModel" (126 : Nat) ({ cls := "ManyHandsModel", name := "enter", desc := "([JII)V" } : Jvm.MethodName)) ∈ gtb := gtb_mem 1002 (by decide +kernel) rfl
theorem kw_953 : (Jvm.Cond.static ({ cls := "ManyHandsModel", name := "enter", desc := "([JII)V" } : Jvm.MethodName)) ∈ gtb := gtb_mem 1003 (by decide +kernel) rfl
set_option maxRecDepth 20000 in
theorem kw_954 : (Jvm.Cond.code ({ cls := "ManyHandsModel", name := "enter", desc := "([JII)V" } : Jvm.MethodName) prog_9_method_7_code (3 : Nat) (Option.none : Option Jvm.ClassFile.FieldType)) ∈ gtb := gtb_mem 1004 (by exact rfl) rfl
theorem kw_955 : (Jvm.Cond.methodLink "ManyHandsLaw" (43 : Nat) ({ cls := "ManyHandsModel", name := "add", desc := "(IIJ)I" } : Jvm.MethodName)) ∈ gtb := gtb_mem 1005 (by decide +kernel) rfl
theorem kw_956 : (Jvm.Cond.instanceMethod ({ cls := "ManyHandsModel", name := "add", desc := "(IIJ)I" } : Jvm.MethodName)) ∈ gtb := gtb_mem 1006 (by decide +kernel) rfl
theorem kw_957 : (Jvm.Cond.selects "ManyHandsModel" ({ cls := "ManyHandsModel", name := "add", desc := "(IIJ)I" } : Jvm.MethodName) ({ cls := "ManyHandsModel", name := "add", desc := "(IIJ)I" } : Jvm.MethodName)) ∈ gtb := gtb_mem 1007 (by decide +kernel) rfl
set_option maxRecDepth 20000 in
theorem kw_958 : (Jvm.Cond.code ({ cls := "ManyHandsModel", name := "add", desc := "(IIJ)I" } : Jvm.MethodName) prog_9_method_27_code (6 : Nat) (Option.some Jvm.ClassFile.FieldType.int)) ∈ gtb := gtb_mem 1008 (by exact rfl) rfl
theorem kw_959 : (Jvm.Cond.methodLink "ManyHandsModel" (138 : Nat) ({ cls := "ManyHandsModel", name := "isShare", desc := "(J)Z" } : Jvm.MethodName)) ∈ gtb := gtb_mem 1009 (by decide +kernel) rfl
theorem kw_960 : (Jvm.Cond.static ({ cls := "ManyHandsModel", name := "isShare", desc := "(J)Z" } : Jvm.MethodName)) ∈ gtb := gtb_mem 1010 (by decide +kernel) rfl
set_option maxRecDepth 20000 in
theorem kw_961 : (Jvm.Cond.code ({ cls := "ManyHandsModel", name := "isShare", desc := "(J)Z" } : Jvm.MethodName) prog_9_method_30_code (2 : Nat) (Option.some Jvm.ClassFile.FieldType.boolean)) ∈ gtb := gtb_mem 1011 (by exact rfl) rfl
theorem kw_962 : (Jvm.Cond.constantLong "ManyHandsModel" (145 : Nat) (1000000000 : Int64)) ∈ gtb := gtb_mem 1012 (by decide +kernel) rfl
theorem kw_963 : (Jvm.Cond.methodLink "ManyHandsLaw" (48 : Nat) ({ cls := "ManyHandsModel", name := "put", desc := "(III)I" } : Jvm.MethodName)) ∈ gtb := gtb_mem 1013 (by decide +kernel) rfl
theorem kw_964 : (Jvm.Cond.instanceMethod ({ cls := "ManyHandsModel", name := "put", desc := "(III)I" } : Jvm.MethodName)) ∈ gtb := gtb_mem 1014 (by decide +kernel) rfl
theorem kw_965 : (Jvm.Cond.selects "ManyHandsModel" ({ cls := "ManyHandsModel", name := "put", desc := "(III)I" } : Jvm.MethodName) ({ cls := "ManyHandsModel", name := "put", desc := "(III)I" } : Jvm.MethodName)) ∈ gtb := gtb_mem 1015 (by decide +kernel) rfl
set_option maxRecDepth 20000 in
theorem kw_966 : (Jvm.Cond.code ({ cls := "ManyHandsModel", name := "put", desc := "(III)I" } : Jvm.MethodName) prog_9_method_28_code (5 : Nat) (Option.some Jvm.ClassFile.FieldType.int)) ∈ gtb := gtb_mem 1016 (by exact rfl) rfl
theorem kw_967 : (Jvm.Cond.methodLink "ManyHandsLaw" (52 : Nat) ({ cls := "ManyHandsModel", name := "take", desc := "(III)I" } : Jvm.MethodName)) ∈ gtb := gtb_mem 1017 (by decide +kernel) rfl
theorem kw_968 : (Jvm.Cond.instanceMethod ({ cls := "ManyHandsModel", name := "take", desc := "(III)I" } : Jvm.MethodName)) ∈ gtb := gtb_mem 1018 (by decide +kernel) rfl
theorem kw_969 : (Jvm.Cond.selects "ManyHandsModel" ({ cls := "ManyHandsModel", name := "take", desc := "(III)I" } : Jvm.MethodName) ({ cls := "ManyHandsModel", name := "take", desc := "(III)I" } : Jvm.MethodName)) ∈ gtb := gtb_mem 1019 (by decide +kernel) rfl
set_option maxRecDepth 20000 in
theorem kw_970 : (Jvm.Cond.code ({ cls := "ManyHandsModel", name := "take", desc := "(III)I" } : Jvm.MethodName) prog_9_method_29_code (5 : Nat) (Option.some Jvm.ClassFile.FieldType.int)) ∈ gtb := gtb_mem 1020 (by exact rfl) rfl
theorem kw_971 : (Jvm.Cond.methodLink "ManyHandsModel" (142 : Nat) ({ cls := "ManyHandsModel", name := "countIn", desc := "(III)I" } : Jvm.MethodName)) ∈ gtb := gtb_mem 1021 (by decide +kernel) rfl
theorem kw_973 : (Jvm.Cond.instanceMethod ({ cls := "ManyHandsModel", name := "countIn", desc := "(III)I" } : Jvm.MethodName)) ∈ gtb := gtb_mem 1023 (by decide +kernel) rfl
set_option maxRecDepth 20000 in
theorem kw_974 : (Jvm.Cond.code ({ cls := "ManyHandsModel", name := "countIn", desc := "(III)I" } : Jvm.MethodName) prog_9_method_54_code (8 : Nat) (Option.some Jvm.ClassFile.FieldType.int)) ∈ gtb := gtb_mem 1024 (by exact rfl) rfl
theorem kw_975 : (Jvm.Cond.methodLink "ManyHandsModel" (185 : Nat) ({ cls := "ManyHandsModel", name := "isOn", desc := "(IIII)Z" } : Jvm.MethodName)) ∈ gtb := gtb_mem 1025 (by decide +kernel) rfl
theorem kw_977 : (Jvm.Cond.instanceMethod ({ cls := "ManyHandsModel", name := "isOn", desc := "(IIII)Z" } : Jvm.MethodName)) ∈ gtb := gtb_mem 1027 (by decide +kernel) rfl
set_option maxRecDepth 20000 in
theorem kw_978 : (Jvm.Cond.code ({ cls := "ManyHandsModel", name := "isOn", desc := "(IIII)Z" } : Jvm.MethodName) prog_9_method_45_code (5 : Nat) (Option.some Jvm.ClassFile.FieldType.boolean)) ∈ gtb := gtb_mem 1028 (by exact rfl) rfl
theorem kw_979 : (Jvm.Cond.methodLink "ManyHandsLaw" (57 : Nat) ({ cls := "ManyHandsModel", name := "give", desc := "(IIIJ)I" } : Jvm.MethodName)) ∈ gtb := gtb_mem 1029 (by decide +kernel) rfl
theorem kw_980 : (Jvm.Cond.instanceMethod ({ cls := "ManyHandsModel", name := "give", desc := "(IIIJ)I" } : Jvm.MethodName)) ∈ gtb := gtb_mem 1030 (by decide +kernel) rfl
theorem kw_981 : (Jvm.Cond.selects "ManyHandsModel" ({ cls := "ManyHandsModel", name := "give", desc := "(IIIJ)I" } : Jvm.MethodName) ({ cls := "ManyHandsModel", name := "give", desc := "(IIIJ)I" } : Jvm.MethodName)) ∈ gtb := gtb_mem 1031 (by decide +kernel) rfl
set_option maxRecDepth 20000 in
theorem kw_982 : (Jvm.Cond.code ({ cls := "ManyHandsModel", name := "give", desc := "(IIIJ)I" } : Jvm.MethodName) prog_9_method_31_code (7 : Nat) (Option.some Jvm.ClassFile.FieldType.int)) ∈ gtb := gtb_mem 1032 (by exact rfl) rfl
theorem kw_983 : (Jvm.Cond.methodLink "ManyHandsModel" (147 : Nat) ({ cls := "ManyHandsModel", name := "rightsOf", desc := "(III)J" } : Jvm.MethodName)) ∈ gtb := gtb_mem 1033 (by decide +kernel) rfl
theorem kw_985 : (Jvm.Cond.instanceMethod ({ cls := "ManyHandsModel", name := "rightsOf", desc := "(III)J" } : Jvm.MethodName)) ∈ gtb := gtb_mem 1035 (by decide +kernel) rfl
set_option maxRecDepth 20000 in
theorem kw_986 : (Jvm.Cond.code ({ cls := "ManyHandsModel", name := "rightsOf", desc := "(III)J" } : Jvm.MethodName) prog_9_method_48_code (8 : Nat) (Option.some Jvm.ClassFile.FieldType.long)) ∈ gtb := gtb_mem 1036 (by exact rfl) rfl
theorem kw_987 : (Jvm.Cond.methodLink "ManyHandsLaw" (61 : Nat) ({ cls := "ManyHandsModel", name := "spend", desc := "(IIJ)I" } : Jvm.MethodName)) ∈ gtb := gtb_mem 1037 (by decide +kernel) rfl
theorem kw_988 : (Jvm.Cond.instanceMethod ({ cls := "ManyHandsModel", name := "spend", desc := "(IIJ)I" } : Jvm.MethodName)) ∈ gtb := gtb_mem 1038 (by decide +kernel) rfl
theorem kw_989 : (Jvm.Cond.selects "ManyHandsModel" ({ cls := "ManyHandsModel", name := "spend", desc := "(IIJ)I" } : Jvm.MethodName) ({ cls := "ManyHandsModel", name := "spend", desc := "(IIJ)I" } : Jvm.MethodName)) ∈ gtb := gtb_mem 1039 (by decide +kernel) rfl
set_option maxRecDepth 20000 in
theorem kw_990 : (Jvm.Cond.code ({ cls := "ManyHandsModel", name := "spend", desc := "(IIJ)I" } : Jvm.MethodName) prog_9_method_32_code (6 : Nat) (Option.some Jvm.ClassFile.FieldType.int)) ∈ gtb := gtb_mem 1040 (by exact rfl) rfl
theorem kw_991 : (Jvm.Cond.methodLink "ManyHandsLaw" (65 : Nat) ({ cls := "ManyHandsModel", name := "raise", desc := "(IIZ)I" } : Jvm.MethodName)) ∈ gtb := gtb_mem 1041 (by decide +kernel) rfl
theorem kw_992 : (Jvm.Cond.instanceMethod ({ cls := "ManyHandsModel", name := "raise", desc := "(IIZ)I" } : Jvm.MethodName)) ∈ gtb := gtb_mem 1042 (by decide +kernel) rfl
theorem kw_993 : (Jvm.Cond.selects "ManyHandsModel" ({ cls := "ManyHandsModel", name := "raise", desc := "(IIZ)I" } : Jvm.MethodName) ({ cls := "ManyHandsModel", name := "raise", desc := "(IIZ)I" } : Jvm.MethodName)) ∈ gtb := gtb_mem 1043 (by decide +kernel) rfl
set_option maxRecDepth 20000 in
theorem kw_994 : (Jvm.Cond.code ({ cls := "ManyHandsModel", name := "raise", desc := "(IIZ)I" } : Jvm.MethodName) prog_9_method_33_code (5 : Nat) (Option.some Jvm.ClassFile.FieldType.int)) ∈ gtb := gtb_mem 1044 (by exact rfl) rfl
theorem kw_995 : (Jvm.Cond.methodLink "ManyHandsLaw" (69 : Nat) ({ cls := "ManyHandsModel", name := "change", desc := "(II)I" } : Jvm.MethodName)) ∈ gtb := gtb_mem 1045 (by decide +kernel) rfl
theorem kw_996 : (Jvm.Cond.instanceMethod ({ cls := "ManyHandsModel", name := "change", desc := "(II)I" } : Jvm.MethodName)) ∈ gtb := gtb_mem 1046 (by decide +kernel) rfl
theorem kw_997 : (Jvm.Cond.selects "ManyHandsModel" ({ cls := "ManyHandsModel", name := "change", desc := "(II)I" } : Jvm.MethodName) ({ cls := "ManyHandsModel", name := "change", desc := "(II)I" } : Jvm.MethodName)) ∈ gtb := gtb_mem 1047 (by decide +kernel) rfl
set_option maxRecDepth 20000 in
theorem kw_998 : (Jvm.Cond.code ({ cls := "ManyHandsModel", name := "change", desc := "(II)I" } : Jvm.MethodName) prog_9_method_34_code (5 : Nat) (Option.some Jvm.ClassFile.FieldType.int)) ∈ gtb := gtb_mem 1048 (by exact rfl) rfl
theorem kw_999 : (Jvm.Cond.methodLink "ManyHandsModel" (151 : Nat) ({ cls := "ManyHandsModel", name := "isChange", desc := "(I)Z" } : Jvm.MethodName)) ∈ gtb := gtb_mem 1049 (by decide +kernel) rfl
theorem kw_1001 : (Jvm.Cond.instanceMethod ({ cls := "ManyHandsModel", name := "isChange", desc := "(I)Z" } : Jvm.MethodName)) ∈ gtb := gtb_mem 1051 (by decide +kernel) rfl
set_option maxRecDepth 20000 in
theorem kw_1002 : (Jvm.Cond.code ({ cls := "ManyHandsModel", name := "isChange", desc := "(I)Z" } : Jvm.MethodName) prog_9_method_14_code (2 : Nat) (Option.some Jvm.ClassFile.FieldType.boolean)) ∈ gtb := gtb_mem 1052 (by exact rfl) rfl
theorem kw_1003 : (Jvm.Cond.methodLink "ManyHandsModel" (154 : Nat) ({ cls := "ManyHandsModel", name := "size", desc := "([JI)I" } : Jvm.MethodName)) ∈ gtb := gtb_mem 1053 (by decide +kernel) rfl
theorem kw_1005 : (Jvm.Cond.instanceMethod ({ cls := "ManyHandsModel", name := "size", desc := "([JI)I" } : Jvm.MethodName)) ∈ gtb := gtb_mem 1055 (by decide +kernel) rfl
set_option maxRecDepth 20000 in
theorem kw_1006 : (Jvm.Cond.code ({ cls := "ManyHandsModel", name := "size", desc := "([JI)I" } : Jvm.MethodName) prog_9_method_10_code (5 : Nat) (Option.some Jvm.ClassFile.FieldType.int)) ∈ gtb := gtb_mem 1056 (by exact rfl) rfl
theorem kw_1007 : (Jvm.Cond.methodLink "ManyHandsLaw" (73 : Nat) ({ cls := "ManyHandsModel", name := "knows", desc := "(II)I" } : Jvm.MethodName)) ∈ gtb := gtb_mem 1057 (by decide +kernel) rfl
theorem kw_1008 : (Jvm.Cond.instanceMethod ({ cls := "ManyHandsModel", name := "knows", desc := "(II)I" } : Jvm.MethodName)) ∈ gtb := gtb_mem 1058 (by decide +kernel) rfl
theorem kw_1009 : (Jvm.Cond.selects "ManyHandsModel" ({ cls := "ManyHandsModel", name := "knows", desc := "(II)I" } : Jvm.MethodName) ({ cls := "ManyHandsModel", name := "knows", desc := "(II)I" } : Jvm.MethodName)) ∈ gtb := gtb_mem 1059 (by decide +kernel) rfl
set_option maxRecDepth 20000 in
theorem kw_1010 : (Jvm.Cond.code ({ cls := "ManyHandsModel", name := "knows", desc := "(II)I" } : Jvm.MethodName) prog_9_method_35_code (3 : Nat) (Option.some Jvm.ClassFile.FieldType.int)) ∈ gtb := gtb_mem 1060 (by exact rfl) rfl
theorem kw_1011 : (Jvm.Cond.methodLink "ManyHandsLaw" (77 : Nat) ({ cls := "ManyHandsModel", name := "come", desc := "(II)I" } : Jvm.MethodName)) ∈ gtb := gtb_mem 1061 (by decide +kernel) rfl
theorem kw_1012 : (Jvm.Cond.instanceMethod ({ cls := "ManyHandsModel", name := "come", desc := "(II)I" } : Jvm.MethodName)) ∈ gtb := gtb_mem 1062 (by decide +kernel) rfl
theorem kw_1013 : (Jvm.Cond.selects "ManyHandsModel" ({ cls := "ManyHandsModel", name := "come", desc := "(II)I" } : Jvm.MethodName) ({ cls := "ManyHandsModel", name := "come", desc := "(II)I" } : Jvm.MethodName)) ∈ gtb := gtb_mem 1063 (by decide +kernel) rfl
set_option maxRecDepth 20000 in
theorem kw_1014 : (Jvm.Cond.code ({ cls := "ManyHandsModel", name := "come", desc := "(II)I" } : Jvm.MethodName) prog_9_method_39_code (3 : Nat) (Option.some Jvm.ClassFile.FieldType.int)) ∈ gtb := gtb_mem 1064 (by exact rfl) rfl
theorem kw_1015 : (Jvm.Cond.methodLink "ManyHandsModel" (162 : Nat) ({ cls := "ManyHandsModel", name := "isReady", desc := "(II)Z" } : Jvm.MethodName)) ∈ gtb := gtb_mem 1065 (by decide +kernel) rfl
theorem kw_1017 : (Jvm.Cond.instanceMethod ({ cls := "ManyHandsModel", name := "isReady", desc := "(II)Z" } : Jvm.MethodName)) ∈ gtb := gtb_mem 1067 (by decide +kernel) rfl
set_option maxRecDepth 20000 in
theorem kw_1018 : (Jvm.Cond.code ({ cls := "ManyHandsModel", name := "isReady", desc := "(II)Z" } : Jvm.MethodName) prog_9_method_36_code (3 : Nat) (Option.some Jvm.ClassFile.FieldType.boolean)) ∈ gtb := gtb_mem 1068 (by exact rfl) rfl
theorem kw_1019 : (Jvm.Cond.methodLink "ManyHandsModel" (158 : Nat) ({ cls := "ManyHandsModel", name := "isWithin", desc := "([JI[JI)Z" } : Jvm.MethodName)) ∈ gtb := gtb_mem 1069 (by decide +kernel) rfl
theorem kw_1020 : (Jvm.Cond.static ({ cls := "ManyHandsModel", name := "isWithin", desc := "([JI[JI)Z" } : Jvm.MethodName)) ∈ gtb := gtb_mem 1070 (by decide +kernel) rfl
set_option maxRecDepth 20000 in
theorem kw_1021 : (Jvm.Cond.code ({ cls := "ManyHandsModel", name := "isWithin", desc := "([JI[JI)Z" } : Jvm.MethodName) prog_9_method_11_code (6 : Nat) (Option.some Jvm.ClassFile.FieldType.boolean)) ∈ gtb := gtb_mem 1071 (by exact rfl) rfl
theorem kw_1022 : (Jvm.Cond.constantLong "ManyHandsModel" (86 : Nat) (-1 : Int64)) ∈ gtb := gtb_mem 1072 (by decide +kernel) rfl
theorem kw_1023 : (Jvm.Cond.methodLink "ManyHandsModel" (174 : Nat) ({ cls := "ManyHandsModel", name := "takes", desc := "(II)I" } : Jvm.MethodName)) ∈ gtb := gtb_mem 1073 (by decide +kernel) rfl
theorem kw_1025 : (Jvm.Cond.instanceMethod ({ cls := "ManyHandsModel", name := "takes", desc := "(II)I" } : Jvm.MethodName)) ∈ gtb := gtb_mem 1075 (by decide +kernel) rfl
set_option maxRecDepth 20000 in
theorem kw_1026 : (Jvm.Cond.code ({ cls := "ManyHandsModel", name := "takes", desc := "(II)I" } : Jvm.MethodName) prog_9_method_38_code (5 : Nat) (Option.some Jvm.ClassFile.FieldType.int)) ∈ gtb := gtb_mem 1076 (by exact rfl) rfl
theorem kw_1027 : (Jvm.Cond.methodLink "ManyHandsModel" (168 : Nat) ({ cls := "ManyHandsModel", name := "leave", desc := "([JII)V" } : Jvm.MethodName)) ∈ gtb := gtb_mem 1077 (by decide +kernel) rfl
theorem kw_1028 : (Jvm.Cond.static ({ cls := "ManyHandsModel", name := "leave", desc := "([JII)V" } : Jvm.MethodName)) ∈ gtb := gtb_mem 1078 (by decide +kernel) rfl
set_option maxRecDepth 20000 in
theorem kw_1029 : (Jvm.Cond.code ({ cls := "ManyHandsModel", name := "leave", desc := "([JII)V" } : Jvm.MethodName) prog_9_method_8_code (3 : Nat) (Option.none : Option Jvm.ClassFile.FieldType)) ∈ gtb := gtb_mem 1079 (by exact rfl) rfl
theorem kw_1030 : (Jvm.Cond.methodLink "ManyHandsModel" (171 : Nat) ({ cls := "ManyHandsModel", name := "nextReady", desc := "(I)I" } : Jvm.MethodName)) ∈ gtb := gtb_mem 1080 (by decide +kernel) rfl
theorem kw_1032 : (Jvm.Cond.instanceMethod ({ cls := "ManyHandsModel", name := "nextReady", desc := "(I)I" } : Jvm.MethodName)) ∈ gtb := gtb_mem 1082 (by decide +kernel) rfl
set_option maxRecDepth 20000 in
theorem kw_1033 : (Jvm.Cond.code ({ cls := "ManyHandsModel", name := "nextReady", desc := "(I)I" } : Jvm.MethodName) prog_9_method_37_code (5 : Nat) (Option.some Jvm.ClassFile.FieldType.int)) ∈ gtb := gtb_mem 1083 (by exact rfl) rfl
theorem kw_1034 : (Jvm.Cond.methodLink "ManyHandsModel" (165 : Nat) ({ cls := "ManyHandsModel", name := "isAfter", desc := "(II)Z" } : Jvm.MethodName)) ∈ gtb := gtb_mem 1084 (by decide +kernel) rfl
theorem kw_1036 : (Jvm.Cond.instanceMethod ({ cls := "ManyHandsModel", name := "isAfter", desc := "(II)Z" } : Jvm.MethodName)) ∈ gtb := gtb_mem 1086 (by decide +kernel) rfl
set_option maxRecDepth 20000 in
theorem kw_1037 : (Jvm.Cond.code ({ cls := "ManyHandsModel", name := "isAfter", desc := "(II)Z" } : Jvm.MethodName) prog_9_method_20_code (3 : Nat) (Option.some Jvm.ClassFile.FieldType.boolean)) ∈ gtb := gtb_mem 1087 (by exact rfl) rfl
theorem kw_1038 : (Jvm.Cond.methodLink "ManyHandsLaw" (81 : Nat) ({ cls := "ManyHandsModel", name := "meet", desc := "(III)I" } : Jvm.MethodName)) ∈ gtb := gtb_mem 1088 (by decide +kernel) rfl
theorem kw_1039 : (Jvm.Cond.instanceMethod ({ cls := "ManyHandsModel", name := "meet", desc := "(III)I" } : Jvm.MethodName)) ∈ gtb := gtb_mem 1089 (by decide +kernel) rfl
theorem kw_1040 : (Jvm.Cond.selects "ManyHandsModel" ({ cls := "ManyHandsModel", name := "meet", desc := "(III)I" } : Jvm.MethodName) ({ cls := "ManyHandsModel", name := "meet", desc := "(III)I" } : Jvm.MethodName)) ∈ gtb := gtb_mem 1090 (by decide +kernel) rfl
set_option maxRecDepth 20000 in
theorem kw_1041 : (Jvm.Cond.code ({ cls := "ManyHandsModel", name := "meet", desc := "(III)I" } : Jvm.MethodName) prog_9_method_40_code (9 : Nat) (Option.some Jvm.ClassFile.FieldType.int)) ∈ gtb := gtb_mem 1091 (by exact rfl) rfl
theorem kw_1042 : (Jvm.Cond.methodLink "ManyHandsModel" (178 : Nat) ({ cls := "ManyHandsModel", name := "come", desc := "(II)I" } : Jvm.MethodName)) ∈ gtb := gtb_mem 1092 (by decide +kernel) rfl
theorem kw_1043 : (Jvm.Cond.methodLink "ManyHandsLaw" (85 : Nat) ({ cls := "ManyHandsModel", name := "lose", desc := "(I)I" } : Jvm.MethodName)) ∈ gtb := gtb_mem 1093 (by decide +kernel) rfl
theorem kw_1044 : (Jvm.Cond.instanceMethod ({ cls := "ManyHandsModel", name := "lose", desc := "(I)I" } : Jvm.MethodName)) ∈ gtb := gtb_mem 1094 (by decide +kernel) rfl
theorem kw_1045 : (Jvm.Cond.selects "ManyHandsModel" ({ cls := "ManyHandsModel", name := "lose", desc := "(I)I" } : Jvm.MethodName) ({ cls := "ManyHandsModel", name := "lose", desc := "(I)I" } : Jvm.MethodName)) ∈ gtb := gtb_mem 1095 (by decide +kernel) rfl
set_option maxRecDepth 20000 in
theorem kw_1046 : (Jvm.Cond.code ({ cls := "ManyHandsModel", name := "lose", desc := "(I)I" } : Jvm.MethodName) prog_9_method_41_code (4 : Nat) (Option.some Jvm.ClassFile.FieldType.int)) ∈ gtb := gtb_mem 1096 (by exact rfl) rfl
theorem kw_1047 : (Jvm.Cond.methodLink "ManyHandsModel" (181 : Nat) ({ cls := "ManyHandsModel", name := "clear", desc := "([JI)V" } : Jvm.MethodName)) ∈ gtb := gtb_mem 1097 (by decide +kernel) rfl
theorem kw_1048 : (Jvm.Cond.static ({ cls := "ManyHandsModel", name := "clear", desc := "([JI)V" } : Jvm.MethodName)) ∈ gtb := gtb_mem 1098 (by decide +kernel) rfl
set_option maxRecDepth 20000 in
theorem kw_1049 : (Jvm.Cond.code ({ cls := "ManyHandsModel", name := "clear", desc := "([JI)V" } : Jvm.MethodName) prog_9_method_9_code (3 : Nat) (Option.none : Option Jvm.ClassFile.FieldType)) ∈ gtb := gtb_mem 1099 (by exact rfl) rfl
theorem kw_1050 : (Jvm.Cond.methodLink "ManyHandsLaw" (89 : Nat) ({ cls := "ManyHandsModel", name := "told", desc := "(II)I" } : Jvm.MethodName)) ∈ gtb := gtb_mem 1100 (by decide +kernel) rfl
theorem kw_1051 : (Jvm.Cond.instanceMethod ({ cls := "ManyHandsModel", name := "told", desc := "(II)I" } : Jvm.MethodName)) ∈ gtb := gtb_mem 1101 (by decide +kernel) rfl
theorem kw_1052 : (Jvm.Cond.selects "ManyHandsModel" ({ cls := "ManyHandsModel", name := "told", desc := "(II)I" } : Jvm.MethodName) ({ cls := "ManyHandsModel", name := "told", desc := "(II)I" } : Jvm.MethodName)) ∈ gtb := gtb_mem 1102 (by decide +kernel) rfl
set_option maxRecDepth 20000 in
theorem kw_1053 : (Jvm.Cond.code ({ cls := "ManyHandsModel", name := "told", desc := "(II)I" } : Jvm.MethodName) prog_9_method_42_code (3 : Nat) (Option.some Jvm.ClassFile.FieldType.int)) ∈ gtb := gtb_mem 1103 (by exact rfl) rfl
theorem kw_1054 : (Jvm.Cond.methodLink "ManyHandsLaw" (93 : Nat) ({ cls := "ManyHandsModel", name := "has", desc := "(II)I" } : Jvm.MethodName)) ∈ gtb := gtb_mem 1104 (by decide +kernel) rfl
theorem kw_1055 : (Jvm.Cond.instanceMethod ({ cls := "ManyHandsModel", name := "has", desc := "(II)I" } : Jvm.MethodName)) ∈ gtb := gtb_mem 1105 (by decide +kernel) rfl
theorem kw_1056 : (Jvm.Cond.selects "ManyHandsModel" ({ cls := "ManyHandsModel", name := "has", desc := "(II)I" } : Jvm.MethodName) ({ cls := "ManyHandsModel", name := "has", desc := "(II)I" } : Jvm.MethodName)) ∈ gtb := gtb_mem 1106 (by decide +kernel) rfl
set_option maxRecDepth 20000 in
theorem kw_1057 : (Jvm.Cond.code ({ cls := "ManyHandsModel", name := "has", desc := "(II)I" } : Jvm.MethodName) prog_9_method_43_code (3 : Nat) (Option.some Jvm.ClassFile.FieldType.int)) ∈ gtb := gtb_mem 1107 (by exact rfl) rfl
theorem kw_1058 : (Jvm.Cond.methodLink "ManyHandsLaw" (97 : Nat) ({ cls := "ManyHandsModel", name := "compare", desc := "(II)I" } : Jvm.MethodName)) ∈ gtb := gtb_mem 1108 (by decide +kernel) rfl
theorem kw_1059 : (Jvm.Cond.instanceMethod ({ cls := "ManyHandsModel", name := "compare", desc := "(II)I" } : Jvm.MethodName)) ∈ gtb := gtb_mem 1109 (by decide +kernel) rfl
theorem kw_1060 : (Jvm.Cond.selects "ManyHandsModel" ({ cls := "ManyHandsModel", name := "compare", desc := "(II)I" } : Jvm.MethodName) ({ cls := "ManyHandsModel", name := "compare", desc := "(II)I" } : Jvm.MethodName)) ∈ gtb := gtb_mem 1110 (by decide +kernel) rfl
set_option maxRecDepth 20000 in
theorem kw_1061 : (Jvm.Cond.code ({ cls := "ManyHandsModel", name := "compare", desc := "(II)I" } : Jvm.MethodName) prog_9_method_44_code (5 : Nat) (Option.some Jvm.ClassFile.FieldType.int)) ∈ gtb := gtb_mem 1111 (by exact rfl) rfl
theorem kw_1062 : (Jvm.Cond.methodLink "ManyHandsLaw" (101 : Nat) ({ cls := "ManyHandsModel", name := "value", desc := "(II)I" } : Jvm.MethodName)) ∈ gtb := gtb_mem 1112 (by decide +kernel) rfl
theorem kw_1063 : (Jvm.Cond.instanceMethod ({ cls := "ManyHandsModel", name := "value", desc := "(II)I" } : Jvm.MethodName)) ∈ gtb := gtb_mem 1113 (by decide +kernel) rfl
theorem kw_1064 : (Jvm.Cond.selects "ManyHandsModel" ({ cls := "ManyHandsModel", name := "value", desc := "(II)I" } : Jvm.MethodName) ({ cls := "ManyHandsModel", name := "value", desc := "(II)I" } : Jvm.MethodName)) ∈ gtb := gtb_mem 1114 (by decide +kernel) rfl
set_option maxRecDepth 20000 in
theorem kw_1065 : (Jvm.Cond.code ({ cls := "ManyHandsModel", name := "value", desc := "(II)I" } : Jvm.MethodName) prog_9_method_56_code (5 : Nat) (Option.some Jvm.ClassFile.FieldType.int)) ∈ gtb := gtb_mem 1115 (by exact rfl) rfl
theorem kw_1066 : (Jvm.Cond.methodLink "ManyHandsModel" (198 : Nat) ({ cls := "ManyHandsModel", name := "need", desc := "(ZIII)I" } : Jvm.MethodName)) ∈ gtb := gtb_mem 1116 (by decide +kernel) rfl
theorem kw_1068 : (Jvm.Cond.instanceMethod ({ cls := "ManyHandsModel", name := "need", desc := "(ZIII)I" } : Jvm.MethodName)) ∈ gtb := gtb_mem 1118 (by decide +kernel) rfl
set_option maxRecDepth 20000 in
theorem kw_1069 : (Jvm.Cond.code ({ cls := "ManyHandsModel", name := "need", desc := "(ZIII)I" } : Jvm.MethodName) prog_9_method_55_code (5 : Nat) (Option.some Jvm.ClassFile.FieldType.int)) ∈ gtb := gtb_mem 1119 (by exact rfl) rfl
theorem kw_1070 : (Jvm.Cond.methodLink "ManyHandsModel" (201 : Nat) ({ cls := "ManyHandsModel", name := "telling", desc := "(II)I" } : Jvm.MethodName)) ∈ gtb := gtb_mem 1120 (by decide +kernel) rfl
theorem kw_1072 : (Jvm.Cond.instanceMethod ({ cls := "ManyHandsModel", name := "telling", desc := "(II)I" } : Jvm.MethodName)) ∈ gtb := gtb_mem 1122 (by decide +kernel) rfl
set_option maxRecDepth 20000 in
theorem kw_1073 : (Jvm.Cond.code ({ cls := "ManyHandsModel", name := "telling", desc := "(II)I" } : Jvm.MethodName) prog_9_method_46_code (6 : Nat) (Option.some Jvm.ClassFile.FieldType.int)) ∈ gtb := gtb_mem 1123 (by exact rfl) rfl
theorem kw_1074 : (Jvm.Cond.methodLink "ManyHandsLaw" (105 : Nat) ({ cls := "ManyHandsModel", name := "sum", desc := "(II)I" } : Jvm.MethodName)) ∈ gtb := gtb_mem 1124 (by decide +kernel) rfl
theorem kw_1075 : (Jvm.Cond.instanceMethod ({ cls := "ManyHandsModel", name := "sum", desc := "(II)I" } : Jvm.MethodName)) ∈ gtb := gtb_mem 1125 (by decide +kernel) rfl
theorem kw_1076 : (Jvm.Cond.selects "ManyHandsModel" ({ cls := "ManyHandsModel", name := "sum", desc := "(II)I" } : Jvm.MethodName) ({ cls := "ManyHandsModel", name := "sum", desc := "(II)I" } : Jvm.MethodName)) ∈ gtb := gtb_mem 1126 (by decide +kernel) rfl
set_option maxRecDepth 20000 in
theorem kw_1077 : (Jvm.Cond.code ({ cls := "ManyHandsModel", name := "sum", desc := "(II)I" } : Jvm.MethodName) prog_9_method_57_code (4 : Nat) (Option.some Jvm.ClassFile.FieldType.int)) ∈ gtb := gtb_mem 1127 (by exact rfl) rfl
theorem kw_1078 : (Jvm.Cond.methodLink "ManyHandsModel" (208 : Nat) ({ cls := "ManyHandsModel", name := "sumOf", desc := "(II)J" } : Jvm.MethodName)) ∈ gtb := gtb_mem 1128 (by decide +kernel) rfl
theorem kw_1080 : (Jvm.Cond.instanceMethod ({ cls := "ManyHandsModel", name := "sumOf", desc := "(II)J" } : Jvm.MethodName)) ∈ gtb := gtb_mem 1130 (by decide +kernel) rfl
set_option maxRecDepth 20000 in
theorem kw_1081 : (Jvm.Cond.code ({ cls := "ManyHandsModel", name := "sumOf", desc := "(II)J" } : Jvm.MethodName) prog_9_method_49_code (6 : Nat) (Option.some Jvm.ClassFile.FieldType.long)) ∈ gtb := gtb_mem 1131 (by exact rfl) rfl
theorem kw_1082 : (Jvm.Cond.methodLink "ManyHandsModel" (212 : Nat) ({ cls := "ManyHandsModel", name := "manyOn", desc := "(II)I" } : Jvm.MethodName)) ∈ gtb := gtb_mem 1132 (by decide +kernel) rfl
theorem kw_1084 : (Jvm.Cond.instanceMethod ({ cls := "ManyHandsModel", name := "manyOn", desc := "(II)I" } : Jvm.MethodName)) ∈ gtb := gtb_mem 1134 (by decide +kernel) rfl
set_option maxRecDepth 20000 in
theorem kw_1085 : (Jvm.Cond.code ({ cls := "ManyHandsModel", name := "manyOn", desc := "(II)I" } : Jvm.MethodName) prog_9_method_47_code (5 : Nat) (Option.some Jvm.ClassFile.FieldType.int)) ∈ gtb := gtb_mem 1135 (by exact rfl) rfl
theorem kw_1086 : (Jvm.Cond.methodLink "ManyHandsLaw" (109 : Nat) ({ cls := "ManyHandsModel", name := "mean", desc := "(II)I" } : Jvm.MethodName)) ∈ gtb := gtb_mem 1136 (by decide +kernel) rfl
theorem kw_1087 : (Jvm.Cond.instanceMethod ({ cls := "ManyHandsModel", name := "mean", desc := "(II)I" } : Jvm.MethodName)) ∈ gtb := gtb_mem 1137 (by decide +kernel) rfl
theorem kw_1088 : (Jvm.Cond.selects "ManyHandsModel" ({ cls := "ManyHandsModel", name := "mean", desc := "(II)I" } : Jvm.MethodName) ({ cls := "ManyHandsModel", name := "mean", desc := "(II)I" } : Jvm.MethodName)) ∈ gtb := gtb_mem 1138 (by decide +kernel) rfl
set_option maxRecDepth 20000 in
theorem kw_1089 : (Jvm.Cond.code ({ cls := "ManyHandsModel", name := "mean", desc := "(II)I" } : Jvm.MethodName) prog_9_method_58_code (5 : Nat) (Option.some Jvm.ClassFile.FieldType.int)) ∈ gtb := gtb_mem 1139 (by exact rfl) rfl
theorem kw_1090 : (Jvm.Cond.methodLink "ManyHandsLaw" (113 : Nat) ({ cls := "ManyHandsModel", name := "often", desc := "(III)I" } : Jvm.MethodName)) ∈ gtb := gtb_mem 1140 (by decide +kernel) rfl
theorem kw_1091 : (Jvm.Cond.instanceMethod ({ cls := "ManyHandsModel", name := "often", desc := "(III)I" } : Jvm.MethodName)) ∈ gtb := gtb_mem 1141 (by decide +kernel) rfl
theorem kw_1092 : (Jvm.Cond.selects "ManyHandsModel" ({ cls := "ManyHandsModel", name := "often", desc := "(III)I" } : Jvm.MethodName) ({ cls := "ManyHandsModel", name := "often", desc := "(III)I" } : Jvm.MethodName)) ∈ gtb := gtb_mem 1142 (by decide +kernel) rfl
set_option maxRecDepth 20000 in
theorem kw_1093 : (Jvm.Cond.code ({ cls := "ManyHandsModel", name := "often", desc := "(III)I" } : Jvm.MethodName) prog_9_method_59_code (5 : Nat) (Option.some Jvm.ClassFile.FieldType.int)) ∈ gtb := gtb_mem 1143 (by exact rfl) rfl
theorem kw_1094 : (Jvm.Cond.methodLink "ManyHandsLaw" (117 : Nat) ({ cls := "ManyHandsModel", name := "inside", desc := "(III)I" } : Jvm.MethodName)) ∈ gtb := gtb_mem 1144 (by decide +kernel) rfl
theorem kw_1095 : (Jvm.Cond.instanceMethod ({ cls := "ManyHandsModel", name := "inside", desc := "(III)I" } : Jvm.MethodName)) ∈ gtb := gtb_mem 1145 (by decide +kernel) rfl
theorem kw_1096 : (Jvm.Cond.selects "ManyHandsModel" ({ cls := "ManyHandsModel", name := "inside", desc := "(III)I" } : Jvm.MethodName) ({ cls := "ManyHandsModel", name := "inside", desc := "(III)I" } : Jvm.MethodName)) ∈ gtb := gtb_mem 1146 (by decide +kernel) rfl
set_option maxRecDepth 20000 in
theorem kw_1097 : (Jvm.Cond.code ({ cls := "ManyHandsModel", name := "inside", desc := "(III)I" } : Jvm.MethodName) prog_9_method_60_code (7 : Nat) (Option.some Jvm.ClassFile.FieldType.int)) ∈ gtb := gtb_mem 1147 (by exact rfl) rfl
theorem kw_1098 : (Jvm.Cond.methodLink "ManyHandsLaw" (121 : Nat) ({ cls := "ManyHandsModel", name := "heads", desc := "(II)I" } : Jvm.MethodName)) ∈ gtb := gtb_mem 1148 (by decide +kernel) rfl
theorem kw_1099 : (Jvm.Cond.instanceMethod ({ cls := "ManyHandsModel", name := "heads", desc := "(II)I" } : Jvm.MethodName)) ∈ gtb := gtb_mem 1149 (by decide +kernel) rfl
theorem kw_1100 : (Jvm.Cond.selects "ManyHandsModel" ({ cls := "ManyHandsModel", name := "heads", desc := "(II)I" } : Jvm.MethodName) ({ cls := "ManyHandsModel", name := "heads", desc := "(II)I" } : Jvm.MethodName)) ∈ gtb := gtb_mem 1150 (by decide +kernel) rfl
set_option maxRecDepth 20000 in
theorem kw_1101 : (Jvm.Cond.code ({ cls := "ManyHandsModel", name := "heads", desc := "(II)I" } : Jvm.MethodName) prog_9_method_61_code (4 : Nat) (Option.some Jvm.ClassFile.FieldType.int)) ∈ gtb := gtb_mem 1151 (by exact rfl) rfl
theorem kw_1102 : (Jvm.Cond.methodLink "ManyHandsModel" (215 : Nat) ({ cls := "ManyHandsModel", name := "layHeads", desc := "(II)V" } : Jvm.MethodName)) ∈ gtb := gtb_mem 1152 (by decide +kernel) rfl
theorem kw_1104 : (Jvm.Cond.instanceMethod ({ cls := "ManyHandsModel", name := "layHeads", desc := "(II)V" } : Jvm.MethodName)) ∈ gtb := gtb_mem 1154 (by decide +kernel) rfl
set_option maxRecDepth 20000 in
theorem kw_1105 : (Jvm.Cond.code ({ cls := "ManyHandsModel", name := "layHeads", desc := "(II)V" } : Jvm.MethodName) prog_9_method_51_code (5 : Nat) (Option.none : Option Jvm.ClassFile.FieldType)) ∈ gtb := gtb_mem 1155 (by exact rfl) rfl
theorem kw_1106 : (Jvm.Cond.methodLink "ManyHandsModel" (192 : Nat) ({ cls := "ManyHandsModel", name := "isKnown", desc := "(IIII)Z" } : Jvm.MethodName)) ∈ gtb := gtb_mem 1156 (by decide +kernel) rfl
theorem kw_1108 : (Jvm.Cond.instanceMethod ({ cls := "ManyHandsModel", name := "isKnown", desc := "(IIII)Z" } : Jvm.MethodName)) ∈ gtb := gtb_mem 1158 (by decide +kernel) rfl
set_option maxRecDepth 20000 in
theorem kw_1109 : (Jvm.Cond.code ({ cls := "ManyHandsModel", name := "isKnown", desc := "(IIII)Z" } : Jvm.MethodName) prog_9_method_50_code (7 : Nat) (Option.some Jvm.ClassFile.FieldType.boolean)) ∈ gtb := gtb_mem 1159 (by exact rfl) rfl
theorem kw_1110 : (Jvm.Cond.methodLink "ManyHandsLaw" (125 : Nat) ({ cls := "ManyHandsModel", name := "head", desc := "(III)I" } : Jvm.MethodName)) ∈ gtb := gtb_mem 1160 (by decide +kernel) rfl
theorem kw_1111 : (Jvm.Cond.instanceMethod ({ cls := "ManyHandsModel", name := "head", desc := "(III)I" } : Jvm.MethodName)) ∈ gtb := gtb_mem 1161 (by decide +kernel) rfl
theorem kw_1112 : (Jvm.Cond.selects "ManyHandsModel" ({ cls := "ManyHandsModel", name := "head", desc := "(III)I" } : Jvm.MethodName) ({ cls := "ManyHandsModel", name := "head", desc := "(III)I" } : Jvm.MethodName)) ∈ gtb := gtb_mem 1162 (by decide +kernel) rfl
set_option maxRecDepth 20000 in
theorem kw_1113 : (Jvm.Cond.code ({ cls := "ManyHandsModel", name := "head", desc := "(III)I" } : Jvm.MethodName) prog_9_method_62_code (5 : Nat) (Option.some Jvm.ClassFile.FieldType.int)) ∈ gtb := gtb_mem 1163 (by exact rfl) rfl
theorem kw_1114 : (Jvm.Cond.methodLink "ManyHandsLaw" (129 : Nat) ({ cls := "ManyHandsModel", name := "rights", desc := "(III)I" } : Jvm.MethodName)) ∈ gtb := gtb_mem 1164 (by decide +kernel) rfl
theorem kw_1115 : (Jvm.Cond.instanceMethod ({ cls := "ManyHandsModel", name := "rights", desc := "(III)I" } : Jvm.MethodName)) ∈ gtb := gtb_mem 1165 (by decide +kernel) rfl
theorem kw_1116 : (Jvm.Cond.selects "ManyHandsModel" ({ cls := "ManyHandsModel", name := "rights", desc := "(III)I" } : Jvm.MethodName) ({ cls := "ManyHandsModel", name := "rights", desc := "(III)I" } : Jvm.MethodName)) ∈ gtb := gtb_mem 1166 (by decide +kernel) rfl
set_option maxRecDepth 20000 in
theorem kw_1117 : (Jvm.Cond.code ({ cls := "ManyHandsModel", name := "rights", desc := "(III)I" } : Jvm.MethodName) prog_9_method_63_code (5 : Nat) (Option.some Jvm.ClassFile.FieldType.int)) ∈ gtb := gtb_mem 1167 (by exact rfl) rfl
theorem kw_1118 : (Jvm.Cond.methodLink "ManyHandsLaw" (133 : Nat) ({ cls := "ManyHandsModel", name := "up", desc := "(II)I" } : Jvm.MethodName)) ∈ gtb := gtb_mem 1168 (by decide +kernel) rfl
theorem kw_1119 : (Jvm.Cond.instanceMethod ({ cls := "ManyHandsModel", name := "up", desc := "(II)I" } : Jvm.MethodName)) ∈ gtb := gtb_mem 1169 (by decide +kernel) rfl
theorem kw_1120 : (Jvm.Cond.selects "ManyHandsModel" ({ cls := "ManyHandsModel", name := "up", desc := "(II)I" } : Jvm.MethodName) ({ cls := "ManyHandsModel", name := "up", desc := "(II)I" } : Jvm.MethodName)) ∈ gtb := gtb_mem 1170 (by decide +kernel) rfl
set_option maxRecDepth 20000 in
theorem kw_1121 : (Jvm.Cond.code ({ cls := "ManyHandsModel", name := "up", desc := "(II)I" } : Jvm.MethodName) prog_9_method_64_code (4 : Nat) (Option.some Jvm.ClassFile.FieldType.int)) ∈ gtb := gtb_mem 1171 (by exact rfl) rfl
theorem kw_1122 : (Jvm.Cond.methodLink "ManyHandsModel" (219 : Nat) ({ cls := "ManyHandsModel", name := "isUp", desc := "(II)Z" } : Jvm.MethodName)) ∈ gtb := gtb_mem 1172 (by decide +kernel) rfl
theorem kw_1124 : (Jvm.Cond.instanceMethod ({ cls := "ManyHandsModel", name := "isUp", desc := "(II)Z" } : Jvm.MethodName)) ∈ gtb := gtb_mem 1174 (by decide +kernel) rfl
set_option maxRecDepth 20000 in
theorem kw_1125 : (Jvm.Cond.code ({ cls := "ManyHandsModel", name := "isUp", desc := "(II)Z" } : Jvm.MethodName) prog_9_method_53_code (7 : Nat) (Option.some Jvm.ClassFile.FieldType.boolean)) ∈ gtb := gtb_mem 1175 (by exact rfl) rfl
theorem kw_1126 : (Jvm.Cond.methodLink "ManyHandsModel" (195 : Nat) ({ cls := "ManyHandsModel", name := "manyDo", desc := "(III)I" } : Jvm.MethodName)) ∈ gtb := gtb_mem 1176 (by decide +kernel) rfl
theorem kw_1128 : (Jvm.Cond.instanceMethod ({ cls := "ManyHandsModel", name := "manyDo", desc := "(III)I" } : Jvm.MethodName)) ∈ gtb := gtb_mem 1178 (by decide +kernel) rfl
set_option maxRecDepth 20000 in
theorem kw_1129 : (Jvm.Cond.code ({ cls := "ManyHandsModel", name := "manyDo", desc := "(III)I" } : Jvm.MethodName) prog_9_method_52_code (6 : Nat) (Option.some Jvm.ClassFile.FieldType.int)) ∈ gtb := gtb_mem 1179 (by exact rfl) rfl
theorem kw_1130 : (Jvm.Cond.methodLink "ManyHandsLaw" (137 : Nat) ({ cls := "ManyHandsModel", name := "alike", desc := "(III)I" } : Jvm.MethodName)) ∈ gtb := gtb_mem 1180 (by decide +kernel) rfl
theorem kw_1131 : (Jvm.Cond.instanceMethod ({ cls := "ManyHandsModel", name := "alike", desc := "(III)I" } : Jvm.MethodName)) ∈ gtb := gtb_mem 1181 (by decide +kernel) rfl
theorem kw_1132 : (Jvm.Cond.selects "ManyHandsModel" ({ cls := "ManyHandsModel", name := "alike", desc := "(III)I" } : Jvm.MethodName) ({ cls := "ManyHandsModel", name := "alike", desc := "(III)I" } : Jvm.MethodName)) ∈ gtb := gtb_mem 1182 (by decide +kernel) rfl
set_option maxRecDepth 20000 in
theorem kw_1133 : (Jvm.Cond.code ({ cls := "ManyHandsModel", name := "alike", desc := "(III)I" } : Jvm.MethodName) prog_9_method_66_code (8 : Nat) (Option.some Jvm.ClassFile.FieldType.int)) ∈ gtb := gtb_mem 1183 (by exact rfl) rfl
theorem kw_1134 : (Jvm.Cond.methodLink "ManyHandsModel" (222 : Nat) ({ cls := "ManyHandsModel", name := "lay", desc := "(II[J)I" } : Jvm.MethodName)) ∈ gtb := gtb_mem 1184 (by decide +kernel) rfl
theorem kw_1136 : (Jvm.Cond.instanceMethod ({ cls := "ManyHandsModel", name := "lay", desc := "(II[J)I" } : Jvm.MethodName)) ∈ gtb := gtb_mem 1186 (by decide +kernel) rfl
set_option maxRecDepth 20000 in
theorem kw_1137 : (Jvm.Cond.code ({ cls := "ManyHandsModel", name := "lay", desc := "(II[J)I" } : Jvm.MethodName) prog_9_method_65_code (6 : Nat) (Option.some Jvm.ClassFile.FieldType.int)) ∈ gtb := gtb_mem 1187 (by exact rfl) rfl
theorem kw_1138 : (Jvm.Cond.methodLink "ManyHandsLaw" (141 : Nat) ({ cls := "ManyHandsModel", name := "leaves", desc := "(II)I" } : Jvm.MethodName)) ∈ gtb := gtb_mem 1188 (by decide +kernel) rfl
theorem kw_1139 : (Jvm.Cond.instanceMethod ({ cls := "ManyHandsModel", name := "leaves", desc := "(II)I" } : Jvm.MethodName)) ∈ gtb := gtb_mem 1189 (by decide +kernel) rfl
theorem kw_1140 : (Jvm.Cond.selects "ManyHandsModel" ({ cls := "ManyHandsModel", name := "leaves", desc := "(II)I" } : Jvm.MethodName) ({ cls := "ManyHandsModel", name := "leaves", desc := "(II)I" } : Jvm.MethodName)) ∈ gtb := gtb_mem 1190 (by decide +kernel) rfl
set_option maxRecDepth 20000 in
theorem kw_1141 : (Jvm.Cond.code ({ cls := "ManyHandsModel", name := "leaves", desc := "(II)I" } : Jvm.MethodName) prog_9_method_67_code (4 : Nat) (Option.some Jvm.ClassFile.FieldType.int)) ∈ gtb := gtb_mem 1191 (by exact rfl) rfl
theorem kw_1142 : (Jvm.Cond.methodLink "ManyHandsLaw" (145 : Nat) ({ cls := "ManyHandsModel", name := "save", desc := "(II)I" } : Jvm.MethodName)) ∈ gtb := gtb_mem 1192 (by decide +kernel) rfl
theorem kw_1143 : (Jvm.Cond.instanceMethod ({ cls := "ManyHandsModel", name := "save", desc := "(II)I" } : Jvm.MethodName)) ∈ gtb := gtb_mem 1193 (by decide +kernel) rfl
theorem kw_1144 : (Jvm.Cond.selects "ManyHandsModel" ({ cls := "ManyHandsModel", name := "save", desc := "(II)I" } : Jvm.MethodName) ({ cls := "ManyHandsModel", name := "save", desc := "(II)I" } : Jvm.MethodName)) ∈ gtb := gtb_mem 1194 (by decide +kernel) rfl
set_option maxRecDepth 20000 in
theorem kw_1145 : (Jvm.Cond.code ({ cls := "ManyHandsModel", name := "save", desc := "(II)I" } : Jvm.MethodName) prog_9_method_68_code (3 : Nat) (Option.some Jvm.ClassFile.FieldType.int)) ∈ gtb := gtb_mem 1195 (by exact rfl) rfl
theorem kw_1146 : (Jvm.Cond.methodLink "ManyHandsLaw" (149 : Nat) ({ cls := "ManyHandsModel", name := "tear", desc := "(II)I" } : Jvm.MethodName)) ∈ gtb := gtb_mem 1196 (by decide +kernel) rfl
theorem kw_1147 : (Jvm.Cond.instanceMethod ({ cls := "ManyHandsModel", name := "tear", desc := "(II)I" } : Jvm.MethodName)) ∈ gtb := gtb_mem 1197 (by decide +kernel) rfl
theorem kw_1148 : (Jvm.Cond.selects "ManyHandsModel" ({ cls := "ManyHandsModel", name := "tear", desc := "(II)I" } : Jvm.MethodName) ({ cls := "ManyHandsModel", name := "tear", desc := "(II)I" } : Jvm.MethodName)) ∈ gtb := gtb_mem 1198 (by decide +kernel) rfl
set_option maxRecDepth 20000 in
theorem kw_1149 : (Jvm.Cond.code ({ cls := "ManyHandsModel", name := "tear", desc := "(II)I" } : Jvm.MethodName) prog_9_method_70_code (4 : Nat) (Option.some Jvm.ClassFile.FieldType.int)) ∈ gtb := gtb_mem 1199 (by exact rfl) rfl
theorem kw_1150 : (Jvm.Cond.methodLink "ManyHandsModel" (226 : Nat) ({ cls := "ManyHandsModel", name := "lacksLeaf", desc := "(II)I" } : Jvm.MethodName)) ∈ gtb := gtb_mem 1200 (by decide +kernel) rfl
theorem kw_1152 : (Jvm.Cond.instanceMethod ({ cls := "ManyHandsModel", name := "lacksLeaf", desc := "(II)I" } : Jvm.MethodName)) ∈ gtb := gtb_mem 1202 (by decide +kernel) rfl
set_option maxRecDepth 20000 in
theorem kw_1153 : (Jvm.Cond.code ({ cls := "ManyHandsModel", name := "lacksLeaf", desc := "(II)I" } : Jvm.MethodName) prog_9_method_69_code (3 : Nat) (Option.some Jvm.ClassFile.FieldType.int)) ∈ gtb := gtb_mem 1203 (by exact rfl) rfl
theorem kw_1154 : (Jvm.Cond.methodLink "ManyHandsLaw" (153 : Nat) ({ cls := "ManyHandsModel", name := "leaf", desc := "(II)I" } : Jvm.MethodName)) ∈ gtb := gtb_mem 1204 (by decide +kernel) rfl
theorem kw_1155 : (Jvm.Cond.instanceMethod ({ cls := "ManyHandsModel", name := "leaf", desc := "(II)I" } : Jvm.MethodName)) ∈ gtb := gtb_mem 1205 (by decide +kernel) rfl
theorem kw_1156 : (Jvm.Cond.selects "ManyHandsModel" ({ cls := "ManyHandsModel", name := "leaf", desc := "(II)I" } : Jvm.MethodName) ({ cls := "ManyHandsModel", name := "leaf", desc := "(II)I" } : Jvm.MethodName)) ∈ gtb := gtb_mem 1206 (by decide +kernel) rfl
set_option maxRecDepth 20000 in
theorem kw_1157 : (Jvm.Cond.code ({ cls := "ManyHandsModel", name := "leaf", desc := "(II)I" } : Jvm.MethodName) prog_9_method_71_code (4 : Nat) (Option.some Jvm.ClassFile.FieldType.int)) ∈ gtb := gtb_mem 1207 (by exact rfl) rfl
theorem kw_1158 : (Jvm.Cond.methodLink "ManyHandsLaw" (158 : Nat) ({ cls := "ManyHandsModel", name := "copy", desc := "(IIIII)I" } : Jvm.MethodName)) ∈ gtb := gtb_mem 1208 (by decide +kernel) rfl
theorem kw_1159 : (Jvm.Cond.instanceMethod ({ cls := "ManyHandsModel", name := "copy", desc := "(IIIII)I" } : Jvm.MethodName)) ∈ gtb := gtb_mem 1209 (by decide +kernel) rfl
theorem kw_1160 : (Jvm.Cond.selects "ManyHandsModel" ({ cls := "ManyHandsModel", name := "copy", desc := "(IIIII)I" } : Jvm.MethodName) ({ cls := "ManyHandsModel", name := "copy", desc := "(IIIII)I" } : Jvm.MethodName)) ∈ gtb := gtb_mem 1210 (by decide +kernel) rfl
set_option maxRecDepth 20000 in
theorem kw_1161 : (Jvm.Cond.code ({ cls := "ManyHandsModel", name := "copy", desc := "(IIIII)I" } : Jvm.MethodName) prog_9_method_72_code (7 : Nat) (Option.some Jvm.ClassFile.FieldType.int)) ∈ gtb := gtb_mem 1211 (by exact rfl) rfl
theorem kw_1162 : (Jvm.Cond.methodLink "ManyHandsLaw" (163 : Nat) ({ cls := "ManyHandsModel", name := "asked", desc := "()J" } : Jvm.MethodName)) ∈ gtb := gtb_mem 1212 (by decide +kernel) rfl
theorem kw_1163 : (Jvm.Cond.instanceMethod ({ cls := "ManyHandsModel", name := "asked", desc := "()J" } : Jvm.MethodName)) ∈ gtb := gtb_mem 1213 (by decide +kernel) rfl
theorem kw_1164 : (Jvm.Cond.selects "ManyHandsModel" ({ cls := "ManyHandsModel", name := "asked", desc := "()J" } : Jvm.MethodName) ({ cls := "ManyHandsModel", name := "asked", desc := "()J" } : Jvm.MethodName)) ∈ gtb := gtb_mem 1214 (by decide +kernel) rfl
set_option maxRecDepth 20000 in
theorem kw_1165 : (Jvm.Cond.code ({ cls := "ManyHandsModel", name := "asked", desc := "()J" } : Jvm.MethodName) prog_9_method_73_code (1 : Nat) (Option.some Jvm.ClassFile.FieldType.long)) ∈ gtb := gtb_mem 1215 (by exact rfl) rfl
theorem kw_1166 : (Jvm.Cond.methodLink "ManyHandsLaw" (167 : Nat) ({ cls := "ManyHandsModel", name := "count", desc := "(I)I" } : Jvm.MethodName)) ∈ gtb := gtb_mem 1216 (by decide +kernel) rfl
theorem kw_1167 : (Jvm.Cond.instanceMethod ({ cls := "ManyHandsModel", name := "count", desc := "(I)I" } : Jvm.MethodName)) ∈ gtb := gtb_mem 1217 (by decide +kernel) rfl
theorem kw_1168 : (Jvm.Cond.selects "ManyHandsModel" ({ cls := "ManyHandsModel", name := "count", desc := "(I)I" } : Jvm.MethodName) ({ cls := "ManyHandsModel", name := "count", desc := "(I)I" } : Jvm.MethodName)) ∈ gtb := gtb_mem 1218 (by decide +kernel) rfl
set_option maxRecDepth 20000 in
theorem kw_1169 : (Jvm.Cond.code ({ cls := "ManyHandsModel", name := "count", desc := "(I)I" } : Jvm.MethodName) prog_9_method_74_code (2 : Nat) (Option.some Jvm.ClassFile.FieldType.int)) ∈ gtb := gtb_mem 1219 (by exact rfl) rfl
theorem kw_1170 : (Jvm.Cond.methodLink "ManyHandsLaw" (180 : Nat) ({ cls := "ManyHandsModel", name := "digest", desc := "(I)J" } : Jvm.MethodName)) ∈ gtb := gtb_mem 1220 (by decide +kernel) rfl
theorem kw_1171 : (Jvm.Cond.instanceMethod ({ cls := "ManyHandsModel", name := "digest", desc := "(I)J" } : Jvm.MethodName)) ∈ gtb := gtb_mem 1221 (by decide +kernel) rfl
theorem kw_1172 : (Jvm.Cond.selects "ManyHandsModel" ({ cls := "ManyHandsModel", name := "digest", desc := "(I)J" } : Jvm.MethodName) ({ cls := "ManyHandsModel", name := "digest", desc := "(I)J" } : Jvm.MethodName)) ∈ gtb := gtb_mem 1222 (by decide +kernel) rfl
set_option maxRecDepth 20000 in
theorem kw_1173 : (Jvm.Cond.code ({ cls := "ManyHandsModel", name := "digest", desc := "(I)J" } : Jvm.MethodName) prog_9_method_75_code (7 : Nat) (Option.some Jvm.ClassFile.FieldType.long)) ∈ gtb := gtb_mem 1223 (by exact rfl) rfl
theorem kw_1174 : (Jvm.Cond.constantLong "ManyHandsModel" (229 : Nat) (17 : Int64)) ∈ gtb := gtb_mem 1224 (by decide +kernel) rfl
theorem kw_1175 : (Jvm.Cond.constantLong "ManyHandsModel" (231 : Nat) (31 : Int64)) ∈ gtb := gtb_mem 1225 (by decide +kernel) rfl
theorem kw_1176 : (Jvm.Cond.methodLink "ManyHandsModel" (233 : Nat) ({ cls := "ManyHandsModel", name := "told", desc := "(II)I" } : Jvm.MethodName)) ∈ gtb := gtb_mem 1226 (by decide +kernel) rfl
theorem kw_1177 : (Jvm.Cond.constantLong "ManyHandsLaw" (33 : Nat) (4294967295 : Int64)) ∈ gtb := gtb_mem 1227 (by decide +kernel) rfl
theorem kw_1179 : (Jvm.Cond.sameMethod "[Ljava/lang/Object;" "java/lang/Object" "getClass" "()Ljava/lang/Class;") ∈ gtb := gtb_mem 1229 (by decide +kernel) rfl
theorem kw_1180 : (Jvm.Cond.selects "[Ljava/lang/Object;" ({ cls := "java/lang/Object", name := "getClass", desc := "()Ljava/lang/Class;" } : Jvm.MethodName) ({ cls := "java/lang/Object", name := "getClass", desc := "()Ljava/lang/Class;" } : Jvm.MethodName)) ∈ gtb := gtb_mem 1230 (by decide +kernel) rfl
