def RX0 : String := "ManyHands$Entry"
def TX0 : u_T := fun k => match k with
  | 0 => ("ManyHands$Entry", "number", "I", true)
  | 1 => ("ManyHands$Entry", "maker", "I", true)
  | 2 => ("ManyHands$Entry", "page", "I", true)
  | 3 => ("ManyHands$Entry", "act", "I", true)
  | 4 => ("ManyHands$Entry", "x", "I", true)
  | 5 => ("ManyHands$Entry", "v", "J", true)
  | 6 => ("ManyHands$Entry", "stampCount", "I", true)
  | 7 => ("ManyHands$Entry", "order", "I", true)
  | 8 => ("ManyHands$Entry", "known", "LManyHands$Reach;", true)
  | _ => ("ManyHands$Entry", "earlier", "LManyHands$Entry;", true)
def tyX0 : Nat → FieldType := fun k => match k with
  | 0 => .int
  | 1 => .int
  | 2 => .int
  | 3 => .int
  | 4 => .int
  | 5 => .long
  | 6 => .int
  | 7 => .int
  | 8 => .object "ManyHands$Reach"
  | _ => .object "ManyHands$Entry"
theorem nmX0 : ∀ a, a < 10 → ∀ b, b < 10 → a ≠ b → (TX0 a).2.1 ≠ (TX0 b).2.1 := by decide +kernel
theorem tyX0_ok : ∀ k, k < 10 → parseFieldDescriptor (TX0 k).2.2.1 = some (tyX0 k) := by decide +kernel
abbrev cX0_init : ByteArray := prog_2_method_1_code
def yX0_init : MethodName := ⟨RX0, "<init>", "(ILManyHands$Hand;LManyHands$Page;IIJ)V"⟩
abbrev cX0_isBelow : ByteArray := prog_2_method_2_code
def yX0_isBelow : MethodName := ⟨RX0, "isBelow", "(LManyHands$Entry;)Z"⟩
abbrev cX0_rightsFor : ByteArray := prog_2_method_3_code
def yX0_rightsFor : MethodName := ⟨RX0, "rightsFor", "(I)J"⟩
abbrev cX0_addedToSum : ByteArray := prog_2_method_4_code
def yX0_addedToSum : MethodName := ⟨RX0, "addedToSum", "()J"⟩
def RX1 : String := "ManyHands$Hand"
def TX1 : u_T := fun k => match k with
  | 0 => ("ManyHands$Hand", "number", "I", true)
  | 1 => ("ManyHands$Hand", "reach", "LManyHands$Reach;", true)
  | 2 => ("ManyHands$Hand", "own", "Ljava/util/ArrayList;", true)
  | 3 => ("ManyHands$Hand", "waiting", "Ljava/util/ArrayList;", true)
  | 4 => ("ManyHands$Hand", "ignored", "[Z", true)
  | 5 => ("ManyHands$Hand", "row", "LManyHands$LeafRow;", true)
  | _ => ("ManyHands$Hand", "greatestCount", "I", false)
def tyX1 : Nat → FieldType := fun k => match k with
  | 0 => .int
  | 1 => .object "ManyHands$Reach"
  | 2 => .object "java/util/ArrayList"
  | 3 => .object "java/util/ArrayList"
  | 4 => .array .boolean
  | 5 => .object "ManyHands$LeafRow"
  | _ => .int
theorem nmX1 : ∀ a, a < 7 → ∀ b, b < 7 → a ≠ b → (TX1 a).2.1 ≠ (TX1 b).2.1 := by decide +kernel
theorem tyX1_ok : ∀ k, k < 7 → parseFieldDescriptor (TX1 k).2.2.1 = some (tyX1 k) := by decide +kernel
abbrev cX1_init : ByteArray := prog_3_method_1_code
def yX1_init : MethodName := ⟨RX1, "<init>", "(I)V"⟩
abbrev cX1_hasAllOwn : ByteArray := prog_3_method_2_code
def yX1_hasAllOwn : MethodName := ⟨RX1, "hasAllOwn", "()Z"⟩
abbrev cX1_ownAt : ByteArray := prog_3_method_3_code
def yX1_ownAt : MethodName := ⟨RX1, "ownAt", "(I)LManyHands$Entry;"⟩
abbrev cX1_include : ByteArray := prog_3_method_4_code
def yX1_include : MethodName := ⟨RX1, "include", "(LManyHands$Entry;)V"⟩
abbrev cX1_awaits : ByteArray := prog_3_method_5_code
def yX1_awaits : MethodName := ⟨RX1, "awaits", "(LManyHands$Entry;)Z"⟩
abbrev cX1_receive : ByteArray := prog_3_method_6_code
def yX1_receive : MethodName := ⟨RX1, "receive", "(LManyHands$Entry;)I"⟩
abbrev cX1_queue : ByteArray := prog_3_method_7_code
def yX1_queue : MethodName := ⟨RX1, "queue", "(LManyHands$Entry;)V"⟩
abbrev cX1_includeReady : ByteArray := prog_3_method_8_code
def yX1_includeReady : MethodName := ⟨RX1, "includeReady", "()I"⟩
abbrev cX1_forget : ByteArray := prog_3_method_9_code
def yX1_forget : MethodName := ⟨RX1, "forget", "()I"⟩
abbrev cX1_report : ByteArray := prog_3_method_10_code
def yX1_report : MethodName := ⟨RX1, "report", "(I)I"⟩
def RX2 : String := "ManyHands$LeafRow"
def TX2 : u_T := fun k => match k with
  | 0 => ("ManyHands$LeafRow", "numbers", "[J", true)
  | 1 => ("ManyHands$LeafRow", "marks", "[I", true)
  | _ => ("ManyHands$LeafRow", "size", "I", false)
def tyX2 : Nat → FieldType := fun k => match k with
  | 0 => .array .long
  | 1 => .array .int
  | _ => .int
theorem nmX2 : ∀ a, a < 3 → ∀ b, b < 3 → a ≠ b → (TX2 a).2.1 ≠ (TX2 b).2.1 := by decide +kernel
theorem tyX2_ok : ∀ k, k < 3 → parseFieldDescriptor (TX2 k).2.2.1 = some (tyX2 k) := by decide +kernel
abbrev cX2_init : ByteArray := prog_4_method_1_code
def yX2_init : MethodName := ⟨RX2, "<init>", "()V"⟩
abbrev cX2_renew : ByteArray := prog_4_method_2_code
def yX2_renew : MethodName := ⟨RX2, "renew", "(I)V"⟩
abbrev cX2_spans : ByteArray := prog_4_method_3_code
def yX2_spans : MethodName := ⟨RX2, "spans", "(II)Z"⟩
abbrev cX2_isThere : ByteArray := prog_4_method_4_code
def yX2_isThere : MethodName := ⟨RX2, "isThere", "(I)Z"⟩
abbrev cX2_store : ByteArray := prog_4_method_5_code
def yX2_store : MethodName := ⟨RX2, "store", "(IJ)V"⟩
abbrev cX2_drop : ByteArray := prog_4_method_6_code
def yX2_drop : MethodName := ⟨RX2, "drop", "(I)V"⟩
abbrev cX2_copyTo : ByteArray := prog_4_method_7_code
def yX2_copyTo : MethodName := ⟨RX2, "copyTo", "(ILManyHands$LeafRow;II)V"⟩
abbrev cX2_foldedOnto : ByteArray := prog_4_method_8_code
def yX2_foldedOnto : MethodName := ⟨RX2, "foldedOnto", "(J)J"⟩
def RX3 : String := "ManyHands$Page"
def TX3 : u_T := fun k => match k with
  | 0 => ("ManyHands$Page", "number", "I", true)
  | 1 => ("ManyHands$Page", "kind", "I", true)
  | 2 => ("ManyHands$Page", "latest", "[LManyHands$Entry;", true)
  | _ => ("ManyHands$Page", "known", "LManyHands$Reach;", true)
def tyX3 : Nat → FieldType := fun k => match k with
  | 0 => .int
  | 1 => .int
  | 2 => .array (.object "ManyHands$Entry")
  | _ => .object "ManyHands$Reach"
theorem nmX3 : ∀ a, a < 4 → ∀ b, b < 4 → a ≠ b → (TX3 a).2.1 ≠ (TX3 b).2.1 := by decide +kernel
theorem tyX3_ok : ∀ k, k < 4 → parseFieldDescriptor (TX3 k).2.2.1 = some (tyX3 k) := by decide +kernel
abbrev cX3_init : ByteArray := prog_5_method_1_code
def yX3_init : MethodName := ⟨RX3, "<init>", "(II)V"⟩
abbrev cX3_isUnder : ByteArray := prog_5_method_2_code
def yX3_isUnder : MethodName := ⟨RX3, "isUnder", "(I)Z"⟩
abbrev cX3_shelfOf : ByteArray := prog_5_method_3_code
def yX3_shelfOf : MethodName := ⟨RX3, "shelfOf", "(I)I"⟩
abbrev cX3_append : ByteArray := prog_5_method_4_code
def yX3_append : MethodName := ⟨RX3, "append", "(LManyHands$Entry;)V"⟩
abbrev cX3_foremost : ByteArray := prog_5_method_5_code
def yX3_foremost : MethodName := ⟨RX3, "foremost", "(LManyHands$Reach;)LManyHands$Entry;"⟩
abbrev cX3_size : ByteArray := prog_5_method_6_code
def yX3_size : MethodName := ⟨RX3, "size", "(LManyHands$Reach;)I"⟩
abbrev cX3_sizeOf : ByteArray := prog_5_method_7_code
def yX3_sizeOf : MethodName := ⟨RX3, "sizeOf", "(LManyHands$Reach;I)I"⟩
abbrev cX3_total : ByteArray := prog_5_method_8_code
def yX3_total : MethodName := ⟨RX3, "total", "(LManyHands$Reach;)J"⟩
abbrev cX3_rightsOf : ByteArray := prog_5_method_9_code
def yX3_rightsOf : MethodName := ⟨RX3, "rightsOf", "(LManyHands$Reach;I)J"⟩
abbrev cX3_gatherKnown : ByteArray := prog_5_method_10_code
def yX3_gatherKnown : MethodName := ⟨RX3, "gatherKnown", "(LManyHands$Reach;II)V"⟩
abbrev cX3_unknownTo : ByteArray := prog_5_method_11_code
def yX3_unknownTo : MethodName := ⟨RX3, "unknownTo", "(LManyHands$Reach;III)I"⟩
abbrev cX3_timesIn : ByteArray := prog_5_method_12_code
def yX3_timesIn : MethodName := ⟨RX3, "timesIn", "(LManyHands$Reach;I)I"⟩
abbrev cX3_thingAt : ByteArray := prog_5_method_13_code
def yX3_thingAt : MethodName := ⟨RX3, "thingAt", "(LManyHands$Reach;I)I"⟩
abbrev cX3_headCount : ByteArray := prog_5_method_14_code
def yX3_headCount : MethodName := ⟨RX3, "headCount", "(LManyHands$Reach;)I"⟩
abbrev cX3_headAt : ByteArray := prog_5_method_15_code
def yX3_headAt : MethodName := ⟨RX3, "headAt", "(LManyHands$Reach;I)LManyHands$Entry;"⟩
abbrev cX3_headAbove : ByteArray := prog_5_method_16_code
def yX3_headAbove : MethodName := ⟨RX3, "headAbove", "(LManyHands$Reach;LManyHands$Entry;)LManyHands$Entry;"⟩
abbrev cX3_isUp : ByteArray := prog_5_method_17_code
def yX3_isUp : MethodName := ⟨RX3, "isUp", "(LManyHands$Reach;)Z"⟩
abbrev cX3_tell : ByteArray := prog_5_method_18_code
def yX3_tell : MethodName := ⟨RX3, "tell", "(LManyHands$Reach;LManyHands$Telling;)V"⟩
abbrev cX3_tellLast : ByteArray := prog_5_method_19_code
def yX3_tellLast : MethodName := ⟨RX3, "tellLast", "(LManyHands$Reach;LManyHands$Telling;)V"⟩
abbrev cX3_tellTally : ByteArray := prog_5_method_20_code
def yX3_tellTally : MethodName := ⟨RX3, "tellTally", "(LManyHands$Reach;LManyHands$Telling;)V"⟩
def RX4 : String := "ManyHands$Reach"
def TX4 : u_T := fun k => match k with
  | _ => ("ManyHands$Reach", "upTo", "[I", true)
def tyX4 : Nat → FieldType := fun k => match k with
  | _ => .array .int
theorem nmX4 : ∀ a, a < 1 → ∀ b, b < 1 → a ≠ b → (TX4 a).2.1 ≠ (TX4 b).2.1 := by decide +kernel
theorem tyX4_ok : ∀ k, k < 1 → parseFieldDescriptor (TX4 k).2.2.1 = some (tyX4 k) := by decide +kernel
abbrev cX4_init : ByteArray := prog_6_method_1_code
def yX4_init : MethodName := ⟨RX4, "<init>", "()V"⟩
abbrev cX4_holds : ByteArray := prog_6_method_2_code
def yX4_holds : MethodName := ⟨RX4, "holds", "(LManyHands$Entry;)Z"⟩
abbrev cX4_covers : ByteArray := prog_6_method_3_code
def yX4_covers : MethodName := ⟨RX4, "covers", "(LManyHands$Reach;)Z"⟩
abbrev cX4_widen : ByteArray := prog_6_method_4_code
def yX4_widen : MethodName := ⟨RX4, "widen", "(LManyHands$Reach;)V"⟩
abbrev cX4_empty : ByteArray := prog_6_method_5_code
def yX4_empty : MethodName := ⟨RX4, "empty", "()V"⟩
abbrev cX4_size : ByteArray := prog_6_method_6_code
def yX4_size : MethodName := ⟨RX4, "size", "()I"⟩
def RX5 : String := "ManyHands$Telling"
def TX5 : u_T := fun k => match k with
  | 0 => ("ManyHands$Telling", "numbers", "[J", true)
  | _ => ("ManyHands$Telling", "size", "I", false)
def tyX5 : Nat → FieldType := fun k => match k with
  | 0 => .array .long
  | _ => .int
theorem nmX5 : ∀ a, a < 2 → ∀ b, b < 2 → a ≠ b → (TX5 a).2.1 ≠ (TX5 b).2.1 := by decide +kernel
theorem tyX5_ok : ∀ k, k < 2 → parseFieldDescriptor (TX5 k).2.2.1 = some (tyX5 k) := by decide +kernel
abbrev cX5_init : ByteArray := prog_7_method_1_code
def yX5_init : MethodName := ⟨RX5, "<init>", "()V"⟩
abbrev cX5_say : ByteArray := prog_7_method_2_code
def yX5_say : MethodName := ⟨RX5, "say", "(J)V"⟩
abbrev cX5_same : ByteArray := prog_7_method_3_code
def yX5_same : MethodName := ⟨RX5, "same", "(LManyHands$Telling;)Z"⟩
abbrev cX5_foldedOnto : ByteArray := prog_7_method_4_code
def yX5_foldedOnto : MethodName := ⟨RX5, "foldedOnto", "(J)J"⟩
def RX6 : String := "ManyHands"
def TX6 : u_T := fun k => match k with
  | 0 => ("ManyHands", "hands", "[LManyHands$Hand;", true)
  | 1 => ("ManyHands", "pages", "[LManyHands$Page;", true)
  | 2 => ("ManyHands", "entries", "Ljava/util/ArrayList;", true)
  | 3 => ("ManyHands", "timesFound", "[I", true)
  | 4 => ("ManyHands", "telling", "LManyHands$Telling;", true)
  | 5 => ("ManyHands", "otherTelling", "LManyHands$Telling;", true)
  | 6 => ("ManyHands", "handCount", "I", false)
  | 7 => ("ManyHands", "pageCount", "I", false)
  | 8 => ("ManyHands", "latestFinding", "I", false)
  | _ => ("ManyHands", "latestTold", "J", false)
def tyX6 : Nat → FieldType := fun k => match k with
  | 0 => .array (.object "ManyHands$Hand")
  | 1 => .array (.object "ManyHands$Page")
  | 2 => .object "java/util/ArrayList"
  | 3 => .array .int
  | 4 => .object "ManyHands$Telling"
  | 5 => .object "ManyHands$Telling"
  | 6 => .int
  | 7 => .int
  | 8 => .int
  | _ => .long
theorem nmX6 : ∀ a, a < 10 → ∀ b, b < 10 → a ≠ b → (TX6 a).2.1 ≠ (TX6 b).2.1 := by decide +kernel
theorem tyX6_ok : ∀ k, k < 10 → parseFieldDescriptor (TX6 k).2.2.1 = some (tyX6 k) := by decide +kernel
abbrev cX6_init : ByteArray := prog_1_method_1_code
def yX6_init : MethodName := ⟨RX6, "<init>", "()V"⟩
abbrev cX6_hand : ByteArray := prog_1_method_2_code
def yX6_hand : MethodName := ⟨RX6, "hand", "()I"⟩
abbrev cX6_page : ByteArray := prog_1_method_3_code
def yX6_page : MethodName := ⟨RX6, "page", "(I)I"⟩
abbrev cX6_is : ByteArray := prog_1_method_4_code
def yX6_is : MethodName := ⟨RX6, "is", "(II)I"⟩
abbrev cX6_keep : ByteArray := prog_1_method_5_code
def yX6_keep : MethodName := ⟨RX6, "keep", "(IIZ)I"⟩
abbrev cX6_write : ByteArray := prog_1_method_6_code
def yX6_write : MethodName := ⟨RX6, "write", "(IIJ)I"⟩
abbrev cX6_add : ByteArray := prog_1_method_7_code
def yX6_add : MethodName := ⟨RX6, "add", "(IIJ)I"⟩
abbrev cX6_put : ByteArray := prog_1_method_8_code
def yX6_put : MethodName := ⟨RX6, "put", "(III)I"⟩
abbrev cX6_take : ByteArray := prog_1_method_9_code
def yX6_take : MethodName := ⟨RX6, "take", "(III)I"⟩
abbrev cX6_give : ByteArray := prog_1_method_10_code
def yX6_give : MethodName := ⟨RX6, "give", "(IIIJ)I"⟩
abbrev cX6_spend : ByteArray := prog_1_method_11_code
def yX6_spend : MethodName := ⟨RX6, "spend", "(IIJ)I"⟩
abbrev cX6_raise : ByteArray := prog_1_method_12_code
def yX6_raise : MethodName := ⟨RX6, "raise", "(IIZ)I"⟩
abbrev cX6_change : ByteArray := prog_1_method_13_code
def yX6_change : MethodName := ⟨RX6, "change", "(II)I"⟩
abbrev cX6_knows : ByteArray := prog_1_method_14_code
def yX6_knows : MethodName := ⟨RX6, "knows", "(II)I"⟩
abbrev cX6_come : ByteArray := prog_1_method_15_code
def yX6_come : MethodName := ⟨RX6, "come", "(II)I"⟩
abbrev cX6_meet : ByteArray := prog_1_method_16_code
def yX6_meet : MethodName := ⟨RX6, "meet", "(III)I"⟩
abbrev cX6_lose : ByteArray := prog_1_method_17_code
def yX6_lose : MethodName := ⟨RX6, "lose", "(I)I"⟩
abbrev cX6_told : ByteArray := prog_1_method_18_code
def yX6_told : MethodName := ⟨RX6, "told", "(II)I"⟩
abbrev cX6_has : ByteArray := prog_1_method_19_code
def yX6_has : MethodName := ⟨RX6, "has", "(II)I"⟩
abbrev cX6_compare : ByteArray := prog_1_method_20_code
def yX6_compare : MethodName := ⟨RX6, "compare", "(II)I"⟩
abbrev cX6_value : ByteArray := prog_1_method_21_code
def yX6_value : MethodName := ⟨RX6, "value", "(II)I"⟩
abbrev cX6_sum : ByteArray := prog_1_method_22_code
def yX6_sum : MethodName := ⟨RX6, "sum", "(II)I"⟩
abbrev cX6_mean : ByteArray := prog_1_method_23_code
def yX6_mean : MethodName := ⟨RX6, "mean", "(II)I"⟩
abbrev cX6_often : ByteArray := prog_1_method_24_code
def yX6_often : MethodName := ⟨RX6, "often", "(III)I"⟩
abbrev cX6_inside : ByteArray := prog_1_method_25_code
def yX6_inside : MethodName := ⟨RX6, "inside", "(III)I"⟩
abbrev cX6_heads : ByteArray := prog_1_method_26_code
def yX6_heads : MethodName := ⟨RX6, "heads", "(II)I"⟩
abbrev cX6_head : ByteArray := prog_1_method_27_code
def yX6_head : MethodName := ⟨RX6, "head", "(III)I"⟩
abbrev cX6_rights : ByteArray := prog_1_method_28_code
def yX6_rights : MethodName := ⟨RX6, "rights", "(III)I"⟩
abbrev cX6_up : ByteArray := prog_1_method_29_code
def yX6_up : MethodName := ⟨RX6, "up", "(II)I"⟩
abbrev cX6_alike : ByteArray := prog_1_method_30_code
def yX6_alike : MethodName := ⟨RX6, "alike", "(III)I"⟩
abbrev cX6_leaves : ByteArray := prog_1_method_31_code
def yX6_leaves : MethodName := ⟨RX6, "leaves", "(II)I"⟩
abbrev cX6_save : ByteArray := prog_1_method_32_code
def yX6_save : MethodName := ⟨RX6, "save", "(II)I"⟩
abbrev cX6_tear : ByteArray := prog_1_method_33_code
def yX6_tear : MethodName := ⟨RX6, "tear", "(II)I"⟩
abbrev cX6_leaf : ByteArray := prog_1_method_34_code
def yX6_leaf : MethodName := ⟨RX6, "leaf", "(II)I"⟩
abbrev cX6_copy : ByteArray := prog_1_method_35_code
def yX6_copy : MethodName := ⟨RX6, "copy", "(IIIII)I"⟩
abbrev cX6_asked : ByteArray := prog_1_method_36_code
def yX6_asked : MethodName := ⟨RX6, "asked", "()J"⟩
abbrev cX6_count : ByteArray := prog_1_method_37_code
def yX6_count : MethodName := ⟨RX6, "count", "(I)I"⟩
abbrev cX6_finding : ByteArray := prog_1_method_38_code
def yX6_finding : MethodName := ⟨RX6, "finding", "()I"⟩
abbrev cX6_findings : ByteArray := prog_1_method_39_code
def yX6_findings : MethodName := ⟨RX6, "findings", "(I)I"⟩
abbrev cX6_digest : ByteArray := prog_1_method_40_code
def yX6_digest : MethodName := ⟨RX6, "digest", "(I)J"⟩
abbrev cX6_handAt : ByteArray := prog_1_method_41_code
def yX6_handAt : MethodName := ⟨RX6, "handAt", "(I)LManyHands$Hand;"⟩
abbrev cX6_pageAt : ByteArray := prog_1_method_42_code
def yX6_pageAt : MethodName := ⟨RX6, "pageAt", "(I)LManyHands$Page;"⟩
abbrev cX6_entryAt : ByteArray := prog_1_method_43_code
def yX6_entryAt : MethodName := ⟨RX6, "entryAt", "(I)LManyHands$Entry;"⟩
abbrev cX6_isKind : ByteArray := prog_1_method_44_code
def yX6_isKind : MethodName := ⟨RX6, "isKind", "(I)Z"⟩
abbrev cX6_isThing : ByteArray := prog_1_method_45_code
def yX6_isThing : MethodName := ⟨RX6, "isThing", "(I)Z"⟩
abbrev cX6_isAmount : ByteArray := prog_1_method_46_code
def yX6_isAmount : MethodName := ⟨RX6, "isAmount", "(J)Z"⟩
abbrev cX6_oneIf : ByteArray := prog_1_method_47_code
def yX6_oneIf : MethodName := ⟨RX6, "oneIf", "(Z)I"⟩
abbrev cX6_folded : ByteArray := prog_1_method_48_code
def yX6_folded : MethodName := ⟨RX6, "folded", "(JJ)J"⟩
abbrev cX6_found : ByteArray := prog_1_method_49_code
def yX6_found : MethodName := ⟨RX6, "found", "(I)I"⟩
abbrev cX6_tellAnd : ByteArray := prog_1_method_50_code
def yX6_tellAnd : MethodName := ⟨RX6, "tellAnd", "(JI)I"⟩
abbrev cX6_refusalToSee : ByteArray := prog_1_method_51_code
def yX6_refusalToSee : MethodName := ⟨RX6, "refusalToSee", "(LManyHands$Hand;LManyHands$Page;I)I"⟩
abbrev cX6_refusalToChange : ByteArray := prog_1_method_52_code
def yX6_refusalToChange : MethodName := ⟨RX6, "refusalToChange", "(LManyHands$Hand;LManyHands$Page;I)I"⟩
abbrev cX6_refusalToRead : ByteArray := prog_1_method_53_code
def yX6_refusalToRead : MethodName := ⟨RX6, "refusalToRead", "(LManyHands$LeafRow;I)I"⟩
abbrev cX6_makeOfRights : ByteArray := prog_1_method_54_code
def yX6_makeOfRights : MethodName := ⟨RX6, "makeOfRights", "(LManyHands$Hand;LManyHands$Page;IIJ)I"⟩
abbrev cX6_make : ByteArray := prog_1_method_55_code
def yX6_make : MethodName := ⟨RX6, "make", "(LManyHands$Hand;LManyHands$Page;IIJ)I"⟩
abbrev cX6_allHave : ByteArray := prog_1_method_56_code
def yX6_allHave : MethodName := ⟨RX6, "allHave", "(LManyHands$Entry;)Z"⟩
abbrev cX6_leastLacking : ByteArray := prog_1_method_57_code
def yX6_leastLacking : MethodName := ⟨RX6, "leastLacking", "(LManyHands$Hand;LManyHands$Hand;)LManyHands$Entry;"⟩
def RX7 : String := "ManyHandsModel"
def TX7 : u_T := fun k => match k with
  | 0 => ("ManyHandsModel", "latest", "I", false)
  | 1 => ("ManyHandsModel", "came", "[I", true)
  | 2 => ("ManyHandsModel", "hands", "I", false)
  | 3 => ("ManyHandsModel", "has", "[J", true)
  | 4 => ("ManyHandsModel", "waits", "[J", true)
  | 5 => ("ManyHandsModel", "skips", "[Z", true)
  | 6 => ("ManyHandsModel", "madeBy", "[I", true)
  | 7 => ("ManyHandsModel", "pages", "I", false)
  | 8 => ("ManyHandsModel", "kindOf", "[I", true)
  | 9 => ("ManyHandsModel", "changes", "I", false)
  | 10 => ("ManyHandsModel", "handOf", "[I", true)
  | 11 => ("ManyHandsModel", "pageOf", "[I", true)
  | 12 => ("ManyHandsModel", "countOf", "[I", true)
  | 13 => ("ManyHandsModel", "doing", "[I", true)
  | 14 => ("ManyHandsModel", "one", "[I", true)
  | 15 => ("ManyHandsModel", "two", "[I", true)
  | 16 => ("ManyHandsModel", "valueOf", "[J", true)
  | 17 => ("ManyHandsModel", "knows", "[J", true)
  | 18 => ("ManyHandsModel", "asked", "J", false)
  | 19 => ("ManyHandsModel", "heads", "[I", true)
  | 20 => ("ManyHandsModel", "headMany", "I", false)
  | 21 => ("ManyHandsModel", "row", "[J", true)
  | 22 => ("ManyHandsModel", "other", "[J", true)
  | 23 => ("ManyHandsModel", "leafMany", "[I", true)
  | 24 => ("ManyHandsModel", "isThere", "[Z", true)
  | 25 => ("ManyHandsModel", "leaf", "[J", true)
  | 26 => ("ManyHandsModel", "copied", "[J", true)
  | _ => ("ManyHandsModel", "copiedThere", "[Z", true)
def tyX7 : Nat → FieldType := fun k => match k with
  | 0 => .int
  | 1 => .array .int
  | 2 => .int
  | 3 => .array .long
  | 4 => .array .long
  | 5 => .array .boolean
  | 6 => .array .int
  | 7 => .int
  | 8 => .array .int
  | 9 => .int
  | 10 => .array .int
  | 11 => .array .int
  | 12 => .array .int
  | 13 => .array .int
  | 14 => .array .int
  | 15 => .array .int
  | 16 => .array .long
  | 17 => .array .long
  | 18 => .long
  | 19 => .array .int
  | 20 => .int
  | 21 => .array .long
  | 22 => .array .long
  | 23 => .array .int
  | 24 => .array .boolean
  | 25 => .array .long
  | 26 => .array .long
  | _ => .array .boolean
theorem nmX7 : ∀ a, a < 28 → ∀ b, b < 28 → a ≠ b → (TX7 a).2.1 ≠ (TX7 b).2.1 := by decide +kernel
theorem tyX7_ok : ∀ k, k < 28 → parseFieldDescriptor (TX7 k).2.2.1 = some (tyX7 k) := by decide +kernel
abbrev cX7_init : ByteArray := prog_9_method_1_code
def yX7_init : MethodName := ⟨RX7, "<init>", "()V"⟩
abbrev cX7_in : ByteArray := prog_9_method_2_code
def yX7_in : MethodName := ⟨RX7, "in", "(III)Z"⟩
abbrev cX7_meets : ByteArray := prog_9_method_3_code
def yX7_meets : MethodName := ⟨RX7, "meets", "(I)I"⟩
abbrev cX7_finding : ByteArray := prog_9_method_4_code
def yX7_finding : MethodName := ⟨RX7, "finding", "()I"⟩
abbrev cX7_findings : ByteArray := prog_9_method_5_code
def yX7_findings : MethodName := ⟨RX7, "findings", "(I)I"⟩
abbrev cX7_isIn : ByteArray := prog_9_method_6_code
def yX7_isIn : MethodName := ⟨RX7, "isIn", "([JII)Z"⟩
abbrev cX7_enter : ByteArray := prog_9_method_7_code
def yX7_enter : MethodName := ⟨RX7, "enter", "([JII)V"⟩
abbrev cX7_leave : ByteArray := prog_9_method_8_code
def yX7_leave : MethodName := ⟨RX7, "leave", "([JII)V"⟩
abbrev cX7_clear : ByteArray := prog_9_method_9_code
def yX7_clear : MethodName := ⟨RX7, "clear", "([JI)V"⟩
abbrev cX7_size : ByteArray := prog_9_method_10_code
def yX7_size : MethodName := ⟨RX7, "size", "([JI)I"⟩
abbrev cX7_isWithin : ByteArray := prog_9_method_11_code
def yX7_isWithin : MethodName := ⟨RX7, "isWithin", "([JI[JI)Z"⟩
abbrev cX7_isHand : ByteArray := prog_9_method_12_code
def yX7_isHand : MethodName := ⟨RX7, "isHand", "(I)Z"⟩
abbrev cX7_isPage : ByteArray := prog_9_method_13_code
def yX7_isPage : MethodName := ⟨RX7, "isPage", "(I)Z"⟩
abbrev cX7_isChange : ByteArray := prog_9_method_14_code
def yX7_isChange : MethodName := ⟨RX7, "isChange", "(I)Z"⟩
abbrev cX7_hand : ByteArray := prog_9_method_15_code
def yX7_hand : MethodName := ⟨RX7, "hand", "()I"⟩
abbrev cX7_page : ByteArray := prog_9_method_16_code
def yX7_page : MethodName := ⟨RX7, "page", "(I)I"⟩
abbrev cX7_isOf : ByteArray := prog_9_method_17_code
def yX7_isOf : MethodName := ⟨RX7, "isOf", "(II)Z"⟩
abbrev cX7_is : ByteArray := prog_9_method_18_code
def yX7_is : MethodName := ⟨RX7, "is", "(II)I"⟩
abbrev cX7_keep : ByteArray := prog_9_method_19_code
def yX7_keep : MethodName := ⟨RX7, "keep", "(IIZ)I"⟩
abbrev cX7_isAfter : ByteArray := prog_9_method_20_code
def yX7_isAfter : MethodName := ⟨RX7, "isAfter", "(II)Z"⟩
abbrev cX7_greatestCount : ByteArray := prog_9_method_21_code
def yX7_greatestCount : MethodName := ⟨RX7, "greatestCount", "(I)I"⟩
abbrev cX7_ownOf : ByteArray := prog_9_method_22_code
def yX7_ownOf : MethodName := ⟨RX7, "ownOf", "(I)I"⟩
abbrev cX7_needMake : ByteArray := prog_9_method_23_code
def yX7_needMake : MethodName := ⟨RX7, "needMake", "(ZIII)I"⟩
abbrev cX7_needSee : ByteArray := prog_9_method_24_code
def yX7_needSee : MethodName := ⟨RX7, "needSee", "(III)I"⟩
abbrev cX7_make : ByteArray := prog_9_method_25_code
def yX7_make : MethodName := ⟨RX7, "make", "(IIIIIJ)I"⟩
abbrev cX7_write : ByteArray := prog_9_method_26_code
def yX7_write : MethodName := ⟨RX7, "write", "(IIJ)I"⟩
abbrev cX7_add : ByteArray := prog_9_method_27_code
def yX7_add : MethodName := ⟨RX7, "add", "(IIJ)I"⟩
abbrev cX7_put : ByteArray := prog_9_method_28_code
def yX7_put : MethodName := ⟨RX7, "put", "(III)I"⟩
abbrev cX7_take : ByteArray := prog_9_method_29_code
def yX7_take : MethodName := ⟨RX7, "take", "(III)I"⟩
abbrev cX7_isShare : ByteArray := prog_9_method_30_code
def yX7_isShare : MethodName := ⟨RX7, "isShare", "(J)Z"⟩
abbrev cX7_give : ByteArray := prog_9_method_31_code
def yX7_give : MethodName := ⟨RX7, "give", "(IIIJ)I"⟩
abbrev cX7_spend : ByteArray := prog_9_method_32_code
def yX7_spend : MethodName := ⟨RX7, "spend", "(IIJ)I"⟩
abbrev cX7_raise : ByteArray := prog_9_method_33_code
def yX7_raise : MethodName := ⟨RX7, "raise", "(IIZ)I"⟩
abbrev cX7_change : ByteArray := prog_9_method_34_code
def yX7_change : MethodName := ⟨RX7, "change", "(II)I"⟩
abbrev cX7_knows : ByteArray := prog_9_method_35_code
def yX7_knows : MethodName := ⟨RX7, "knows", "(II)I"⟩
abbrev cX7_isReady : ByteArray := prog_9_method_36_code
def yX7_isReady : MethodName := ⟨RX7, "isReady", "(II)Z"⟩
abbrev cX7_nextReady : ByteArray := prog_9_method_37_code
def yX7_nextReady : MethodName := ⟨RX7, "nextReady", "(I)I"⟩
abbrev cX7_takes : ByteArray := prog_9_method_38_code
def yX7_takes : MethodName := ⟨RX7, "takes", "(II)I"⟩
abbrev cX7_come : ByteArray := prog_9_method_39_code
def yX7_come : MethodName := ⟨RX7, "come", "(II)I"⟩
abbrev cX7_meet : ByteArray := prog_9_method_40_code
def yX7_meet : MethodName := ⟨RX7, "meet", "(III)I"⟩
abbrev cX7_lose : ByteArray := prog_9_method_41_code
def yX7_lose : MethodName := ⟨RX7, "lose", "(I)I"⟩
abbrev cX7_told : ByteArray := prog_9_method_42_code
def yX7_told : MethodName := ⟨RX7, "told", "(II)I"⟩
abbrev cX7_has : ByteArray := prog_9_method_43_code
def yX7_has : MethodName := ⟨RX7, "has", "(II)I"⟩
abbrev cX7_compare : ByteArray := prog_9_method_44_code
def yX7_compare : MethodName := ⟨RX7, "compare", "(II)I"⟩
abbrev cX7_isOn : ByteArray := prog_9_method_45_code
def yX7_isOn : MethodName := ⟨RX7, "isOn", "(IIII)Z"⟩
abbrev cX7_telling : ByteArray := prog_9_method_46_code
def yX7_telling : MethodName := ⟨RX7, "telling", "(II)I"⟩
abbrev cX7_manyOn : ByteArray := prog_9_method_47_code
def yX7_manyOn : MethodName := ⟨RX7, "manyOn", "(II)I"⟩
abbrev cX7_rightsOf : ByteArray := prog_9_method_48_code
def yX7_rightsOf : MethodName := ⟨RX7, "rightsOf", "(III)J"⟩
abbrev cX7_sumOf : ByteArray := prog_9_method_49_code
def yX7_sumOf : MethodName := ⟨RX7, "sumOf", "(II)J"⟩
abbrev cX7_isKnown : ByteArray := prog_9_method_50_code
def yX7_isKnown : MethodName := ⟨RX7, "isKnown", "(IIII)Z"⟩
abbrev cX7_layHeads : ByteArray := prog_9_method_51_code
def yX7_layHeads : MethodName := ⟨RX7, "layHeads", "(II)V"⟩
abbrev cX7_manyDo : ByteArray := prog_9_method_52_code
def yX7_manyDo : MethodName := ⟨RX7, "manyDo", "(III)I"⟩
abbrev cX7_isUp : ByteArray := prog_9_method_53_code
def yX7_isUp : MethodName := ⟨RX7, "isUp", "(II)Z"⟩
abbrev cX7_countIn : ByteArray := prog_9_method_54_code
def yX7_countIn : MethodName := ⟨RX7, "countIn", "(III)I"⟩
abbrev cX7_need : ByteArray := prog_9_method_55_code
def yX7_need : MethodName := ⟨RX7, "need", "(ZIII)I"⟩
abbrev cX7_value : ByteArray := prog_9_method_56_code
def yX7_value : MethodName := ⟨RX7, "value", "(II)I"⟩
abbrev cX7_sum : ByteArray := prog_9_method_57_code
def yX7_sum : MethodName := ⟨RX7, "sum", "(II)I"⟩
abbrev cX7_mean : ByteArray := prog_9_method_58_code
def yX7_mean : MethodName := ⟨RX7, "mean", "(II)I"⟩
abbrev cX7_often : ByteArray := prog_9_method_59_code
def yX7_often : MethodName := ⟨RX7, "often", "(III)I"⟩
abbrev cX7_inside : ByteArray := prog_9_method_60_code
def yX7_inside : MethodName := ⟨RX7, "inside", "(III)I"⟩
abbrev cX7_heads : ByteArray := prog_9_method_61_code
def yX7_heads : MethodName := ⟨RX7, "heads", "(II)I"⟩
abbrev cX7_head : ByteArray := prog_9_method_62_code
def yX7_head : MethodName := ⟨RX7, "head", "(III)I"⟩
abbrev cX7_rights : ByteArray := prog_9_method_63_code
def yX7_rights : MethodName := ⟨RX7, "rights", "(III)I"⟩
abbrev cX7_up : ByteArray := prog_9_method_64_code
def yX7_up : MethodName := ⟨RX7, "up", "(II)I"⟩
abbrev cX7_lay : ByteArray := prog_9_method_65_code
def yX7_lay : MethodName := ⟨RX7, "lay", "(II[J)I"⟩
abbrev cX7_alike : ByteArray := prog_9_method_66_code
def yX7_alike : MethodName := ⟨RX7, "alike", "(III)I"⟩
abbrev cX7_leaves : ByteArray := prog_9_method_67_code
def yX7_leaves : MethodName := ⟨RX7, "leaves", "(II)I"⟩
abbrev cX7_save : ByteArray := prog_9_method_68_code
def yX7_save : MethodName := ⟨RX7, "save", "(II)I"⟩
abbrev cX7_lacksLeaf : ByteArray := prog_9_method_69_code
def yX7_lacksLeaf : MethodName := ⟨RX7, "lacksLeaf", "(II)I"⟩
abbrev cX7_tear : ByteArray := prog_9_method_70_code
def yX7_tear : MethodName := ⟨RX7, "tear", "(II)I"⟩
abbrev cX7_leaf : ByteArray := prog_9_method_71_code
def yX7_leaf : MethodName := ⟨RX7, "leaf", "(II)I"⟩
abbrev cX7_copy : ByteArray := prog_9_method_72_code
def yX7_copy : MethodName := ⟨RX7, "copy", "(IIIII)I"⟩
abbrev cX7_asked : ByteArray := prog_9_method_73_code
def yX7_asked : MethodName := ⟨RX7, "asked", "()J"⟩
abbrev cX7_count : ByteArray := prog_9_method_74_code
def yX7_count : MethodName := ⟨RX7, "count", "(I)I"⟩
abbrev cX7_digest : ByteArray := prog_9_method_75_code
def yX7_digest : MethodName := ⟨RX7, "digest", "(I)J"⟩
def RJx145de : String := "java/io/Serializable"
def TJx145de : u_T := fun k => match k with
  | _ => ("", "", "", false)
def tyJx145de : Nat → FieldType := fun k => match k with
  | _ => .int
theorem nmJx145de : ∀ a, a < 0 → ∀ b, b < 0 → a ≠ b → (TJx145de a).2.1 ≠ (TJx145de b).2.1 := by decide +kernel
theorem tyJx145de_ok : ∀ k, k < 0 → parseFieldDescriptor (TJx145de k).2.2.1 = some (tyJx145de k) := by decide +kernel
def RJx8e188 : String := "java/lang/Cloneable"
def TJx8e188 : u_T := fun k => match k with
  | _ => ("", "", "", false)
def tyJx8e188 : Nat → FieldType := fun k => match k with
  | _ => .int
theorem nmJx8e188 : ∀ a, a < 0 → ∀ b, b < 0 → a ≠ b → (TJx8e188 a).2.1 ≠ (TJx8e188 b).2.1 := by decide +kernel
theorem tyJx8e188_ok : ∀ k, k < 0 → parseFieldDescriptor (TJx8e188 k).2.2.1 = some (tyJx8e188 k) := by decide +kernel
def RJxab1ab : String := "java/lang/Iterable"
def TJxab1ab : u_T := fun k => match k with
  | _ => ("", "", "", false)
def tyJxab1ab : Nat → FieldType := fun k => match k with
  | _ => .int
theorem nmJxab1ab : ∀ a, a < 0 → ∀ b, b < 0 → a ≠ b → (TJxab1ab a).2.1 ≠ (TJxab1ab b).2.1 := by decide +kernel
theorem tyJxab1ab_ok : ∀ k, k < 0 → parseFieldDescriptor (TJxab1ab k).2.2.1 = some (tyJxab1ab k) := by decide +kernel
def RJ9 : String := "java/lang/Math"
def TJ9 : u_T := fun k => match k with
  | _ => ("", "", "", false)
def tyJ9 : Nat → FieldType := fun k => match k with
  | _ => .int
theorem nmJ9 : ∀ a, a < 0 → ∀ b, b < 0 → a ≠ b → (TJ9 a).2.1 ≠ (TJ9 b).2.1 := by decide +kernel
theorem tyJ9_ok : ∀ k, k < 0 → parseFieldDescriptor (TJ9 k).2.2.1 = some (tyJ9 k) := by decide +kernel
abbrev cJ9_max_7cf53 : ByteArray := prog_13_method_65_code
def yJ9_max_7cf53 : MethodName := ⟨RJ9, "max", "(II)I"⟩
abbrev cJ9_min_7cf53 : ByteArray := prog_13_method_69_code
def yJ9_min_7cf53 : MethodName := ⟨RJ9, "min", "(II)I"⟩
def RJ10 : String := "java/lang/System"
def TJ10 : u_T := fun k => match k with
  | _ => ("", "", "", false)
def tyJ10 : Nat → FieldType := fun k => match k with
  | _ => .int
theorem nmJ10 : ∀ a, a < 0 → ∀ b, b < 0 → a ≠ b → (TJ10 a).2.1 ≠ (TJ10 b).2.1 := by decide +kernel
theorem tyJ10_ok : ∀ k, k < 0 → parseFieldDescriptor (TJ10 k).2.2.1 = some (tyJ10 k) := by decide +kernel
def RJxa1e45 : String := "java/util/AbstractCollection"
def TJxa1e45 : u_T := fun k => match k with
  | _ => ("", "", "", false)
def tyJxa1e45 : Nat → FieldType := fun k => match k with
  | _ => .int
theorem nmJxa1e45 : ∀ a, a < 0 → ∀ b, b < 0 → a ≠ b → (TJxa1e45 a).2.1 ≠ (TJxa1e45 b).2.1 := by decide +kernel
theorem tyJxa1e45_ok : ∀ k, k < 0 → parseFieldDescriptor (TJxa1e45 k).2.2.1 = some (tyJxa1e45 k) := by decide +kernel
abbrev cJxa1e45_init_da8c8 : ByteArray := prog_15_method_1_code
def yJxa1e45_init_da8c8 : MethodName := ⟨RJxa1e45, "<init>", "()V"⟩
def RJxc12de : String := "java/util/AbstractList"
def TJxc12de : u_T := fun k => match k with
  | _ => ("", "", "", false)
def tyJxc12de : Nat → FieldType := fun k => match k with
  | _ => .int
theorem nmJxc12de : ∀ a, a < 0 → ∀ b, b < 0 → a ≠ b → (TJxc12de a).2.1 ≠ (TJxc12de b).2.1 := by decide +kernel
theorem tyJxc12de_ok : ∀ k, k < 0 → parseFieldDescriptor (TJxc12de k).2.2.1 = some (tyJxc12de k) := by decide +kernel
abbrev cJxc12de_init_da8c8 : ByteArray := prog_16_method_1_code
def yJxc12de_init_da8c8 : MethodName := ⟨RJxc12de, "<init>", "()V"⟩
def RJx4a65c : String := "java/util/ArrayList"
def TJx4a65c : u_T := fun k => match k with
  | 0 => ("java/util/AbstractList", "modCount", "I", false)
  | 1 => ("java/util/ArrayList", "elementData", "[Ljava/lang/Object;", false)
  | _ => ("java/util/ArrayList", "size", "I", false)
def tyJx4a65c : Nat → FieldType := fun k => match k with
  | 0 => .int
  | 1 => .array (.object "java/lang/Object")
  | _ => .int
theorem nmJx4a65c : ∀ a, a < 3 → ∀ b, b < 3 → a ≠ b → (TJx4a65c a).2.1 ≠ (TJx4a65c b).2.1 := by decide +kernel
theorem tyJx4a65c_ok : ∀ k, k < 3 → parseFieldDescriptor (TJx4a65c k).2.2.1 = some (tyJx4a65c k) := by decide +kernel
abbrev cJx4a65c_init_da8c8 : ByteArray := prog_17_method_2_code
def yJx4a65c_init_da8c8 : MethodName := ⟨RJx4a65c, "<init>", "()V"⟩
abbrev cJx4a65c_grow_92f84 : ByteArray := prog_17_method_6_code
def yJx4a65c_grow_92f84 : MethodName := ⟨RJx4a65c, "grow", "(I)[Ljava/lang/Object;"⟩
abbrev cJx4a65c_grow_d5877 : ByteArray := prog_17_method_7_code
def yJx4a65c_grow_d5877 : MethodName := ⟨RJx4a65c, "grow", "()[Ljava/lang/Object;"⟩
abbrev cJx4a65c_size_8abf5 : ByteArray := prog_17_method_8_code
def yJx4a65c_size_8abf5 : MethodName := ⟨RJx4a65c, "size", "()I"⟩
abbrev cJx4a65c_isEmpty_aae02 : ByteArray := prog_17_method_9_code
def yJx4a65c_isEmpty_aae02 : MethodName := ⟨RJx4a65c, "isEmpty", "()Z"⟩
abbrev cJx4a65c_elementData_915e3 : ByteArray := prog_17_method_18_code
def yJx4a65c_elementData_915e3 : MethodName := ⟨RJx4a65c, "elementData", "(I)Ljava/lang/Object;"⟩
abbrev cJx4a65c_get_915e3 : ByteArray := prog_17_method_20_code
def yJx4a65c_get_915e3 : MethodName := ⟨RJx4a65c, "get", "(I)Ljava/lang/Object;"⟩
abbrev cJx4a65c_add_72be8 : ByteArray := prog_17_method_24_code
def yJx4a65c_add_72be8 : MethodName := ⟨RJx4a65c, "add", "(Ljava/lang/Object;[Ljava/lang/Object;I)V"⟩
abbrev cJx4a65c_add_9ea2d : ByteArray := prog_17_method_25_code
def yJx4a65c_add_9ea2d : MethodName := ⟨RJx4a65c, "add", "(Ljava/lang/Object;)Z"⟩
abbrev cJx4a65c_add_7a177 : ByteArray := prog_17_method_26_code
def yJx4a65c_add_7a177 : MethodName := ⟨RJx4a65c, "add", "(ILjava/lang/Object;)V"⟩
abbrev cJx4a65c_remove_915e3 : ByteArray := prog_17_method_29_code
def yJx4a65c_remove_915e3 : MethodName := ⟨RJx4a65c, "remove", "(I)Ljava/lang/Object;"⟩
abbrev cJx4a65c_fastRemove_b59b0 : ByteArray := prog_17_method_39_code
def yJx4a65c_fastRemove_b59b0 : MethodName := ⟨RJx4a65c, "fastRemove", "([Ljava/lang/Object;I)V"⟩
abbrev cJx4a65c_clear_da8c8 : ByteArray := prog_17_method_40_code
def yJx4a65c_clear_da8c8 : MethodName := ⟨RJx4a65c, "clear", "()V"⟩
abbrev cJx4a65c_rangeCheckForAdd_d00df : ByteArray := prog_17_method_45_code
def yJx4a65c_rangeCheckForAdd_d00df : MethodName := ⟨RJx4a65c, "rangeCheckForAdd", "(I)V"⟩
def RJ7 : String := "java/util/Arrays"
def TJ7 : u_T := fun k => match k with
  | _ => ("", "", "", false)
def tyJ7 : Nat → FieldType := fun k => match k with
  | _ => .int
theorem nmJ7 : ∀ a, a < 0 → ∀ b, b < 0 → a ≠ b → (TJ7 a).2.1 ≠ (TJ7 b).2.1 := by decide +kernel
theorem tyJ7_ok : ∀ k, k < 0 → parseFieldDescriptor (TJ7 k).2.2.1 = some (tyJ7 k) := by decide +kernel
abbrev cJ7_copyOf_1904c : ByteArray := prog_18_method_119_code
def yJ7_copyOf_1904c : MethodName := ⟨RJ7, "copyOf", "([Ljava/lang/Object;I)[Ljava/lang/Object;"⟩
abbrev cJ7_copyOf_6403c : ByteArray := prog_18_method_120_code
def yJ7_copyOf_6403c : MethodName := ⟨RJ7, "copyOf", "([Ljava/lang/Object;ILjava/lang/Class;)[Ljava/lang/Object;"⟩
def RJx5ef63 : String := "java/util/Collection"
def TJx5ef63 : u_T := fun k => match k with
  | _ => ("", "", "", false)
def tyJx5ef63 : Nat → FieldType := fun k => match k with
  | _ => .int
theorem nmJx5ef63 : ∀ a, a < 0 → ∀ b, b < 0 → a ≠ b → (TJx5ef63 a).2.1 ≠ (TJx5ef63 b).2.1 := by decide +kernel
theorem tyJx5ef63_ok : ∀ k, k < 0 → parseFieldDescriptor (TJx5ef63 k).2.2.1 = some (tyJx5ef63 k) := by decide +kernel
def RJxbd725 : String := "java/util/List"
def TJxbd725 : u_T := fun k => match k with
  | _ => ("", "", "", false)
def tyJxbd725 : Nat → FieldType := fun k => match k with
  | _ => .int
theorem nmJxbd725 : ∀ a, a < 0 → ∀ b, b < 0 → a ≠ b → (TJxbd725 a).2.1 ≠ (TJxbd725 b).2.1 := by decide +kernel
theorem tyJxbd725_ok : ∀ k, k < 0 → parseFieldDescriptor (TJxbd725 k).2.2.1 = some (tyJxbd725 k) := by decide +kernel
def RJ15 : String := "java/util/Objects"
def TJ15 : u_T := fun k => match k with
  | _ => ("", "", "", false)
def tyJ15 : Nat → FieldType := fun k => match k with
  | _ => .int
theorem nmJ15 : ∀ a, a < 0 → ∀ b, b < 0 → a ≠ b → (TJ15 a).2.1 ≠ (TJ15 b).2.1 := by decide +kernel
theorem tyJ15_ok : ∀ k, k < 0 → parseFieldDescriptor (TJ15 k).2.2.1 = some (tyJ15 k) := by decide +kernel
abbrev cJ15_checkIndex_7cf53 : ByteArray := prog_21_method_17_code
def yJ15_checkIndex_7cf53 : MethodName := ⟨RJ15, "checkIndex", "(II)I"⟩
def RJxf0a74 : String := "java/util/RandomAccess"
def TJxf0a74 : u_T := fun k => match k with
  | _ => ("", "", "", false)
def tyJxf0a74 : Nat → FieldType := fun k => match k with
  | _ => .int
theorem nmJxf0a74 : ∀ a, a < 0 → ∀ b, b < 0 → a ≠ b → (TJxf0a74 a).2.1 ≠ (TJxf0a74 b).2.1 := by decide +kernel
theorem tyJxf0a74_ok : ∀ k, k < 0 → parseFieldDescriptor (TJxf0a74 k).2.2.1 = some (tyJxf0a74 k) := by decide +kernel
def RJxa66e6 : String := "java/util/SequencedCollection"
def TJxa66e6 : u_T := fun k => match k with
  | _ => ("", "", "", false)
def tyJxa66e6 : Nat → FieldType := fun k => match k with
  | _ => .int
theorem nmJxa66e6 : ∀ a, a < 0 → ∀ b, b < 0 → a ≠ b → (TJxa66e6 a).2.1 ≠ (TJxa66e6 b).2.1 := by decide +kernel
theorem tyJxa66e6_ok : ∀ k, k < 0 → parseFieldDescriptor (TJxa66e6 k).2.2.1 = some (tyJxa66e6 k) := by decide +kernel
def RJ8 : String := "jdk/internal/util/ArraysSupport"
def TJ8 : u_T := fun k => match k with
  | _ => ("", "", "", false)
def tyJ8 : Nat → FieldType := fun k => match k with
  | _ => .int
theorem nmJ8 : ∀ a, a < 0 → ∀ b, b < 0 → a ≠ b → (TJ8 a).2.1 ≠ (TJ8 b).2.1 := by decide +kernel
theorem tyJ8_ok : ∀ k, k < 0 → parseFieldDescriptor (TJ8 k).2.2.1 = some (tyJ8 k) := by decide +kernel
abbrev cJ8_newLength_cabcc : ByteArray := prog_24_method_27_code
def yJ8_newLength_cabcc : MethodName := ⟨RJ8, "newLength", "(III)I"⟩
abbrev cJ8_hugeLength_7cf53 : ByteArray := prog_24_method_28_code
def yJ8_hugeLength_7cf53 : MethodName := ⟨RJ8, "hugeLength", "(II)I"⟩
def RJ3 : String := "jdk/internal/util/Preconditions"
def TJ3 : u_T := fun k => match k with
  | _ => ("", "", "", false)
def tyJ3 : Nat → FieldType := fun k => match k with
  | _ => .int
theorem nmJ3 : ∀ a, a < 0 → ∀ b, b < 0 → a ≠ b → (TJ3 a).2.1 ≠ (TJ3 b).2.1 := by decide +kernel
theorem tyJ3_ok : ∀ k, k < 0 → parseFieldDescriptor (TJ3 k).2.2.1 = some (tyJ3 k) := by decide +kernel
abbrev cJ3_checkIndex_8e157 : ByteArray := prog_25_method_11_code
def yJ3_checkIndex_8e157 : MethodName := ⟨RJ3, "checkIndex", "(IILjava/util/function/BiFunction;)I"⟩
def RL : String := "ManyHandsLaw"
abbrev cL_law : ByteArray := code
def yL_law : MethodName := ⟨RL, "law", "([I)Z"⟩
abbrev vwCl : List vw_C := [(RJx4a65c, TJx4a65c, 3), (RX0, TX0, 10), (RX1, TX1, 7), (RX2, TX2, 3), (RX3, TX3, 4), (RX4, TX4, 1), (RX5, TX5, 2), (RX6, TX6, 10), (RX7, TX7, 28)]
