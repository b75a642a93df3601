def RX0 : String := "FarStore$Message"
def TX0 : u_T := fun k => match k with
  | 0 => ("FarStore$Message", "what", "I", true)
  | 1 => ("FarStore$Message", "from", "LFarStore$Site;", true)
  | 2 => ("FarStore$Message", "to", "LFarStore$Site;", true)
  | _ => ("FarStore$Message", "about", "LFarStore$Transaction;", true)
def tyX0 : Nat → FieldType := fun k => match k with
  | 0 => .int
  | 1 => .object "FarStore$Site"
  | 2 => .object "FarStore$Site"
  | _ => .object "FarStore$Transaction"
abbrev wsX00 : List Cond := u_ws RX0 TX0 4
theorem nmX0 : ∀ a, a < 4 → ∀ b, b < 4 → a ≠ b → (TX0 a).2.1 ≠ (TX0 b).2.1 := by decide +kernel
theorem tyX0_ok : ∀ k, k < 4 → parseFieldDescriptor (TX0 k).2.2.1 = some (tyX0 k) := by decide +kernel
abbrev cX0_init : ByteArray := prog_2_method_1_code
def yX0_init : MethodName := ⟨RX0, "<init>", "(ILFarStore$Site;LFarStore$Site;LFarStore$Transaction;)V"⟩
abbrev cX0_canCome : ByteArray := prog_2_method_2_code
def yX0_canCome : MethodName := ⟨RX0, "canCome", "()Z"⟩
def RX1 : String := "FarStore$Site"
def TX1 : u_T := fun k => match k with
  | 0 => ("FarStore$Site", "number", "I", true)
  | 1 => ("FarStore$Site", "taken", "[I", true)
  | 2 => ("FarStore$Site", "inOrder", "Ljava/util/ArrayList;", true)
  | _ => ("FarStore$Site", "holders", "[I", true)
def tyX1 : Nat → FieldType := fun k => match k with
  | 0 => .int
  | 1 => .array .int
  | 2 => .object "java/util/ArrayList"
  | _ => .array .int
abbrev wsX10 : List Cond := u_ws RX1 TX1 4
theorem nmX1 : ∀ a, a < 4 → ∀ b, b < 4 → a ≠ b → (TX1 a).2.1 ≠ (TX1 b).2.1 := by decide +kernel
theorem tyX1_ok : ∀ k, k < 4 → parseFieldDescriptor (TX1 k).2.2.1 = some (tyX1 k) := by decide +kernel
abbrev cX1_init : ByteArray := prog_3_method_1_code
def yX1_init : MethodName := ⟨RX1, "<init>", "(I)V"⟩
abbrev cX1_isFree : ByteArray := prog_3_method_2_code
def yX1_isFree : MethodName := ⟨RX1, "isFree", "(LFarStore$Thing;LFarStore$Transaction;)Z"⟩
abbrev cX1_valueOf : ByteArray := prog_3_method_3_code
def yX1_valueOf : MethodName := ⟨RX1, "valueOf", "(LFarStore$Thing;[I)J"⟩
abbrev cX1_countOf : ByteArray := prog_3_method_4_code
def yX1_countOf : MethodName := ⟨RX1, "countOf", "(I[I)J"⟩
abbrev cX1_canTake : ByteArray := prog_3_method_5_code
def yX1_canTake : MethodName := ⟨RX1, "canTake", "(LFarStore$Transaction;)Z"⟩
abbrev cX1_take : ByteArray := prog_3_method_6_code
def yX1_take : MethodName := ⟨RX1, "take", "(LFarStore$Transaction;)V"⟩
abbrev cX1_unlock : ByteArray := prog_3_method_7_code
def yX1_unlock : MethodName := ⟨RX1, "unlock", "(LFarStore$Transaction;)V"⟩
abbrev cX1_howManyLocked : ByteArray := prog_3_method_8_code
def yX1_howManyLocked : MethodName := ⟨RX1, "howManyLocked", "()I"⟩
def RX2 : String := "FarStore$Thing"
def TX2 : u_T := fun k => match k with
  | 0 => ("FarStore$Thing", "number", "I", true)
  | 1 => ("FarStore$Thing", "home", "LFarStore$Site;", true)
  | _ => ("FarStore$Thing", "set", "Z", true)
def tyX2 : Nat → FieldType := fun k => match k with
  | 0 => .int
  | 1 => .object "FarStore$Site"
  | _ => .boolean
abbrev wsX20 : List Cond := u_ws RX2 TX2 3
theorem nmX2 : ∀ a, a < 3 → ∀ b, b < 3 → a ≠ b → (TX2 a).2.1 ≠ (TX2 b).2.1 := by decide +kernel
theorem tyX2_ok : ∀ k, k < 3 → parseFieldDescriptor (TX2 k).2.2.1 = some (tyX2 k) := by decide +kernel
abbrev cX2_init : ByteArray := prog_4_method_1_code
def yX2_init : MethodName := ⟨RX2, "<init>", "(ILFarStore$Site;Z)V"⟩
abbrev cX2_slotOf : ByteArray := prog_4_method_2_code
def yX2_slotOf : MethodName := ⟨RX2, "slotOf", "(I)I"⟩
def RX3 : String := "FarStore$Transaction"
def TX3 : u_T := fun k => match k with
  | 0 => ("FarStore$Transaction", "number", "I", true)
  | 1 => ("FarStore$Transaction", "site", "LFarStore$Site;", true)
  | 2 => ("FarStore$Transaction", "seen", "[I", true)
  | 3 => ("FarStore$Transaction", "wrote", "[Z", true)
  | 4 => ("FarStore$Transaction", "values", "[J", true)
  | 5 => ("FarStore$Transaction", "added", "[J", true)
  | 6 => ("FarStore$Transaction", "dropped", "[Z", true)
  | 7 => ("FarStore$Transaction", "addedAnything", "Z", false)
  | 8 => ("FarStore$Transaction", "plainWritten", "I", false)
  | 9 => ("FarStore$Transaction", "state", "I", false)
  | 10 => ("FarStore$Transaction", "commitNumber", "I", false)
  | 11 => ("FarStore$Transaction", "asks", "I", false)
  | 12 => ("FarStore$Transaction", "yeses", "I", false)
  | _ => ("FarStore$Transaction", "acks", "I", false)
def tyX3 : Nat → FieldType := fun k => match k with
  | 0 => .int
  | 1 => .object "FarStore$Site"
  | 2 => .array .int
  | 3 => .array .boolean
  | 4 => .array .long
  | 5 => .array .long
  | 6 => .array .boolean
  | 7 => .boolean
  | 8 => .int
  | 9 => .int
  | 10 => .int
  | 11 => .int
  | 12 => .int
  | _ => .int
abbrev wsX30 : List Cond := u_ws RX3 TX3 14
theorem nmX3 : ∀ a, a < 14 → ∀ b, b < 14 → a ≠ b → (TX3 a).2.1 ≠ (TX3 b).2.1 := by decide +kernel
theorem tyX3_ok : ∀ k, k < 14 → parseFieldDescriptor (TX3 k).2.2.1 = some (tyX3 k) := by decide +kernel
abbrev cX3_init : ByteArray := prog_5_method_1_code
def yX3_init : MethodName := ⟨RX3, "<init>", "(ILFarStore$Site;)V"⟩
abbrev cX3_put : ByteArray := prog_5_method_2_code
def yX3_put : MethodName := ⟨RX3, "put", "(LFarStore$Thing;J)V"⟩
abbrev cX3_addTo : ByteArray := prog_5_method_3_code
def yX3_addTo : MethodName := ⟨RX3, "addTo", "(II)V"⟩
abbrev cX3_wroteAnything : ByteArray := prog_5_method_4_code
def yX3_wroteAnything : MethodName := ⟨RX3, "wroteAnything", "()Z"⟩
abbrev cX3_hasCommit : ByteArray := prog_5_method_5_code
def yX3_hasCommit : MethodName := ⟨RX3, "hasCommit", "()Z"⟩
abbrev cX3_isWithin : ByteArray := prog_5_method_6_code
def yX3_isWithin : MethodName := ⟨RX3, "isWithin", "([I)Z"⟩
def RX4 : String := "FarStore"
def TX4 : u_T := fun k => match k with
  | 0 => ("FarStore", "places", "[LFarStore$Site;", true)
  | 1 => ("FarStore", "siteCount", "I", false)
  | 2 => ("FarStore", "acksForSafe", "I", false)
  | 3 => ("FarStore", "things", "Ljava/util/ArrayList;", true)
  | 4 => ("FarStore", "transactions", "Ljava/util/ArrayList;", true)
  | _ => ("FarStore", "underWay", "Ljava/util/ArrayList;", true)
def tyX4 : Nat → FieldType := fun k => match k with
  | 0 => .array (.object "FarStore$Site")
  | 1 => .int
  | 2 => .int
  | 3 => .object "java/util/ArrayList"
  | 4 => .object "java/util/ArrayList"
  | _ => .object "java/util/ArrayList"
abbrev wsX40 : List Cond := u_ws RX4 TX4 6
theorem nmX4 : ∀ a, a < 6 → ∀ b, b < 6 → a ≠ b → (TX4 a).2.1 ≠ (TX4 b).2.1 := by decide +kernel
theorem tyX4_ok : ∀ k, k < 6 → parseFieldDescriptor (TX4 k).2.2.1 = some (tyX4 k) := by decide +kernel
abbrev cX4_init : ByteArray := prog_1_method_1_code
def yX4_init : MethodName := ⟨RX4, "<init>", "()V"⟩
abbrev cX4_sites : ByteArray := prog_1_method_2_code
def yX4_sites : MethodName := ⟨RX4, "sites", "(II)I"⟩
abbrev cX4_thing : ByteArray := prog_1_method_3_code
def yX4_thing : MethodName := ⟨RX4, "thing", "(IZ)I"⟩
abbrev cX4_begin : ByteArray := prog_1_method_4_code
def yX4_begin : MethodName := ⟨RX4, "begin", "(I)I"⟩
abbrev cX4_read : ByteArray := prog_1_method_5_code
def yX4_read : MethodName := ⟨RX4, "read", "(II)J"⟩
abbrev cX4_counted : ByteArray := prog_1_method_6_code
def yX4_counted : MethodName := ⟨RX4, "counted", "(III)J"⟩
abbrev cX4_write : ByteArray := prog_1_method_7_code
def yX4_write : MethodName := ⟨RX4, "write", "(IIJ)I"⟩
abbrev cX4_add : ByteArray := prog_1_method_8_code
def yX4_add : MethodName := ⟨RX4, "add", "(IIII)I"⟩
abbrev cX4_commit : ByteArray := prog_1_method_9_code
def yX4_commit : MethodName := ⟨RX4, "commit", "(I)I"⟩
abbrev cX4_abort : ByteArray := prog_1_method_10_code
def yX4_abort : MethodName := ⟨RX4, "abort", "(I)I"⟩
abbrev cX4_deliver : ByteArray := prog_1_method_11_code
def yX4_deliver : MethodName := ⟨RX4, "deliver", "(I)I"⟩
abbrev cX4_all : ByteArray := prog_1_method_12_code
def yX4_all : MethodName := ⟨RX4, "all", "(I)I"⟩
abbrev cX4_message : ByteArray := prog_1_method_13_code
def yX4_message : MethodName := ⟨RX4, "message", "(II)I"⟩
abbrev cX4_told : ByteArray := prog_1_method_14_code
def yX4_told : MethodName := ⟨RX4, "told", "(II)I"⟩
abbrev cX4_start : ByteArray := prog_1_method_15_code
def yX4_start : MethodName := ⟨RX4, "start", "(II)I"⟩
abbrev cX4_had : ByteArray := prog_1_method_16_code
def yX4_had : MethodName := ⟨RX4, "had", "(II)I"⟩
abbrev cX4_latest : ByteArray := prog_1_method_17_code
def yX4_latest : MethodName := ⟨RX4, "latest", "(II)J"⟩
abbrev cX4_sum : ByteArray := prog_1_method_18_code
def yX4_sum : MethodName := ⟨RX4, "sum", "(III)J"⟩
abbrev cX4_locked : ByteArray := prog_1_method_19_code
def yX4_locked : MethodName := ⟨RX4, "locked", "(II)I"⟩
abbrev cX4_sees : ByteArray := prog_1_method_20_code
def yX4_sees : MethodName := ⟨RX4, "sees", "(II)I"⟩
abbrev cX4_calm : ByteArray := prog_1_method_21_code
def yX4_calm : MethodName := ⟨RX4, "calm", "()I"⟩
abbrev cX4_count : ByteArray := prog_1_method_22_code
def yX4_count : MethodName := ⟨RX4, "count", "(I)I"⟩
abbrev cX4_findSite : ByteArray := prog_1_method_23_code
def yX4_findSite : MethodName := ⟨RX4, "findSite", "(I)LFarStore$Site;"⟩
abbrev cX4_findThing : ByteArray := prog_1_method_24_code
def yX4_findThing : MethodName := ⟨RX4, "findThing", "(I)LFarStore$Thing;"⟩
abbrev cX4_findPlain : ByteArray := prog_1_method_25_code
def yX4_findPlain : MethodName := ⟨RX4, "findPlain", "(I)LFarStore$Thing;"⟩
abbrev cX4_findSet : ByteArray := prog_1_method_26_code
def yX4_findSet : MethodName := ⟨RX4, "findSet", "(I)LFarStore$Thing;"⟩
abbrev cX4_findTransaction : ByteArray := prog_1_method_27_code
def yX4_findTransaction : MethodName := ⟨RX4, "findTransaction", "(I)LFarStore$Transaction;"⟩
abbrev cX4_findMessage : ByteArray := prog_1_method_28_code
def yX4_findMessage : MethodName := ⟨RX4, "findMessage", "(I)LFarStore$Message;"⟩
abbrev cX4_isElement : ByteArray := prog_1_method_29_code
def yX4_isElement : MethodName := ⟨RX4, "isElement", "(I)Z"⟩
abbrev cX4_oneIf : ByteArray := prog_1_method_30_code
def yX4_oneIf : MethodName := ⟨RX4, "oneIf", "(Z)I"⟩
abbrev cX4_isPlainOf : ByteArray := prog_1_method_31_code
def yX4_isPlainOf : MethodName := ⟨RX4, "isPlainOf", "(LFarStore$Transaction;LFarStore$Thing;LFarStore$Site;)Z"⟩
abbrev cX4_hasHome : ByteArray := prog_1_method_32_code
def yX4_hasHome : MethodName := ⟨RX4, "hasHome", "(LFarStore$Transaction;LFarStore$Site;)Z"⟩
abbrev cX4_hasHomesElsewhere : ByteArray := prog_1_method_33_code
def yX4_hasHomesElsewhere : MethodName := ⟨RX4, "hasHomesElsewhere", "(LFarStore$Transaction;)Z"⟩
abbrev cX4_allFree : ByteArray := prog_1_method_34_code
def yX4_allFree : MethodName := ⟨RX4, "allFree", "(LFarStore$Transaction;LFarStore$Site;)Z"⟩
abbrev cX4_lockThings : ByteArray := prog_1_method_35_code
def yX4_lockThings : MethodName := ⟨RX4, "lockThings", "(LFarStore$Transaction;LFarStore$Site;)V"⟩
abbrev cX4_tellHomes : ByteArray := prog_1_method_36_code
def yX4_tellHomes : MethodName := ⟨RX4, "tellHomes", "(LFarStore$Transaction;I)I"⟩
abbrev cX4_tellOthers : ByteArray := prog_1_method_37_code
def yX4_tellOthers : MethodName := ⟨RX4, "tellOthers", "(LFarStore$Transaction;I)V"⟩
abbrev cX4_post : ByteArray := prog_1_method_38_code
def yX4_post : MethodName := ⟨RX4, "post", "(ILFarStore$Site;LFarStore$Site;LFarStore$Transaction;)V"⟩
abbrev cX4_makeCommitted : ByteArray := prog_1_method_39_code
def yX4_makeCommitted : MethodName := ⟨RX4, "makeCommitted", "(LFarStore$Transaction;)V"⟩
abbrev cX4_firstThatCanCome : ByteArray := prog_1_method_40_code
def yX4_firstThatCanCome : MethodName := ⟨RX4, "firstThatCanCome", "()I"⟩
abbrev cX4_receive : ByteArray := prog_1_method_41_code
def yX4_receive : MethodName := ⟨RX4, "receive", "(LFarStore$Message;)V"⟩
abbrev cX4_receiveAsk : ByteArray := prog_1_method_42_code
def yX4_receiveAsk : MethodName := ⟨RX4, "receiveAsk", "(LFarStore$Message;)V"⟩
abbrev cX4_receiveYes : ByteArray := prog_1_method_43_code
def yX4_receiveYes : MethodName := ⟨RX4, "receiveYes", "(LFarStore$Transaction;)V"⟩
abbrev cX4_receiveNo : ByteArray := prog_1_method_44_code
def yX4_receiveNo : MethodName := ⟨RX4, "receiveNo", "(LFarStore$Transaction;)V"⟩
abbrev cX4_receiveDrop : ByteArray := prog_1_method_45_code
def yX4_receiveDrop : MethodName := ⟨RX4, "receiveDrop", "(LFarStore$Message;)V"⟩
abbrev cX4_receiveSend : ByteArray := prog_1_method_46_code
def yX4_receiveSend : MethodName := ⟨RX4, "receiveSend", "(LFarStore$Message;)V"⟩
abbrev cX4_isSafe : ByteArray := prog_1_method_47_code
def yX4_isSafe : MethodName := ⟨RX4, "isSafe", "(LFarStore$Transaction;)Z"⟩
abbrev cX4_isEverywhere : ByteArray := prog_1_method_48_code
def yX4_isEverywhere : MethodName := ⟨RX4, "isEverywhere", "(LFarStore$Transaction;)Z"⟩
abbrev cX4_howManyAre : ByteArray := prog_1_method_49_code
def yX4_howManyAre : MethodName := ⟨RX4, "howManyAre", "(I)I"⟩
abbrev cX4_howManyCommits : ByteArray := prog_1_method_50_code
def yX4_howManyCommits : MethodName := ⟨RX4, "howManyCommits", "()I"⟩
abbrev cX4_howManyLocks : ByteArray := prog_1_method_51_code
def yX4_howManyLocks : MethodName := ⟨RX4, "howManyLocks", "()I"⟩
abbrev cX4_howManySafe : ByteArray := prog_1_method_52_code
def yX4_howManySafe : MethodName := ⟨RX4, "howManySafe", "()I"⟩
def RX5 : String := "FarStoreModel"
def TX5 : u_T := fun k => match k with
  | 0 => ("FarStoreModel", "n", "I", false)
  | 1 => ("FarStoreModel", "f", "I", false)
  | 2 => ("FarStoreModel", "things", "I", false)
  | 3 => ("FarStoreModel", "homes", "[I", true)
  | 4 => ("FarStoreModel", "sets", "[Z", true)
  | 5 => ("FarStoreModel", "many", "I", false)
  | 6 => ("FarStoreModel", "sites", "[I", true)
  | 7 => ("FarStoreModel", "states", "[I", true)
  | 8 => ("FarStoreModel", "starts", "[I", true)
  | 9 => ("FarStoreModel", "commits", "[I", true)
  | 10 => ("FarStoreModel", "acks", "[I", true)
  | 11 => ("FarStoreModel", "yes", "[I", true)
  | 12 => ("FarStoreModel", "asks", "[I", true)
  | 13 => ("FarStoreModel", "dropped", "[Z", true)
  | 14 => ("FarStoreModel", "wrote", "[Z", true)
  | 15 => ("FarStoreModel", "written", "[J", true)
  | 16 => ("FarStoreModel", "added", "[Z", true)
  | 17 => ("FarStoreModel", "more", "[J", true)
  | 18 => ("FarStoreModel", "hads", "[I", true)
  | 19 => ("FarStoreModel", "came", "[I", true)
  | 20 => ("FarStoreModel", "cameMany", "[I", true)
  | 21 => ("FarStoreModel", "locks", "[I", true)
  | 22 => ("FarStoreModel", "messages", "I", false)
  | 23 => ("FarStoreModel", "mKind", "[I", true)
  | 24 => ("FarStoreModel", "mTo", "[I", true)
  | 25 => ("FarStoreModel", "mFrom", "[I", true)
  | _ => ("FarStoreModel", "mOf", "[I", true)
def tyX5 : Nat → FieldType := fun k => match k with
  | 0 => .int
  | 1 => .int
  | 2 => .int
  | 3 => .array .int
  | 4 => .array .boolean
  | 5 => .int
  | 6 => .array .int
  | 7 => .array .int
  | 8 => .array .int
  | 9 => .array .int
  | 10 => .array .int
  | 11 => .array .int
  | 12 => .array .int
  | 13 => .array .boolean
  | 14 => .array .boolean
  | 15 => .array .long
  | 16 => .array .boolean
  | 17 => .array .long
  | 18 => .array .int
  | 19 => .array .int
  | 20 => .array .int
  | 21 => .array .int
  | 22 => .int
  | 23 => .array .int
  | 24 => .array .int
  | 25 => .array .int
  | _ => .array .int
abbrev wsX50 : List Cond := u_ws RX5 TX5 27
theorem nmX5 : ∀ a, a < 27 → ∀ b, b < 27 → a ≠ b → (TX5 a).2.1 ≠ (TX5 b).2.1 := by decide +kernel
theorem tyX5_ok : ∀ k, k < 27 → parseFieldDescriptor (TX5 k).2.2.1 = some (tyX5 k) := by decide +kernel
abbrev cX5_init : ByteArray := prog_7_method_1_code
def yX5_init : MethodName := ⟨RX5, "<init>", "()V"⟩
abbrev cX5_in : ByteArray := prog_7_method_3_code
def yX5_in : MethodName := ⟨RX5, "in", "(JJJ)Z"⟩
abbrev cX5_isSite : ByteArray := prog_7_method_4_code
def yX5_isSite : MethodName := ⟨RX5, "isSite", "(I)Z"⟩
abbrev cX5_isThing : ByteArray := prog_7_method_5_code
def yX5_isThing : MethodName := ⟨RX5, "isThing", "(I)Z"⟩
abbrev cX5_is : ByteArray := prog_7_method_6_code
def yX5_is : MethodName := ⟨RX5, "is", "(I)Z"⟩
abbrev cX5_sites : ByteArray := prog_7_method_7_code
def yX5_sites : MethodName := ⟨RX5, "sites", "(II)I"⟩
abbrev cX5_thing : ByteArray := prog_7_method_8_code
def yX5_thing : MethodName := ⟨RX5, "thing", "(IZ)I"⟩
abbrev cX5_begin : ByteArray := prog_7_method_9_code
def yX5_begin : MethodName := ⟨RX5, "begin", "(I)I"⟩
abbrev cX5_has : ByteArray := prog_7_method_10_code
def yX5_has : MethodName := ⟨RX5, "has", "(II)Z"⟩
abbrev cX5_read : ByteArray := prog_7_method_11_code
def yX5_read : MethodName := ⟨RX5, "read", "(II)J"⟩
abbrev cX5_isElement : ByteArray := prog_7_method_12_code
def yX5_isElement : MethodName := ⟨RX5, "isElement", "(I)Z"⟩
abbrev cX5_counted : ByteArray := prog_7_method_13_code
def yX5_counted : MethodName := ⟨RX5, "counted", "(III)J"⟩
abbrev cX5_latest : ByteArray := prog_7_method_14_code
def yX5_latest : MethodName := ⟨RX5, "latest", "(II)J"⟩
abbrev cX5_sum : ByteArray := prog_7_method_15_code
def yX5_sum : MethodName := ⟨RX5, "sum", "(III)J"⟩
abbrev cX5_plain : ByteArray := prog_7_method_16_code
def yX5_plain : MethodName := ⟨RX5, "plain", "(I)I"⟩
abbrev cX5_write : ByteArray := prog_7_method_17_code
def yX5_write : MethodName := ⟨RX5, "write", "(IIJ)I"⟩
abbrev cX5_add : ByteArray := prog_7_method_18_code
def yX5_add : MethodName := ⟨RX5, "add", "(IIII)I"⟩
abbrev cX5_send : ByteArray := prog_7_method_19_code
def yX5_send : MethodName := ⟨RX5, "send", "(IIII)V"⟩
abbrev cX5_isFree : ByteArray := prog_7_method_20_code
def yX5_isFree : MethodName := ⟨RX5, "isFree", "(III)Z"⟩
abbrev cX5_areFree : ByteArray := prog_7_method_21_code
def yX5_areFree : MethodName := ⟨RX5, "areFree", "(II)Z"⟩
abbrev cX5_lock : ByteArray := prog_7_method_22_code
def yX5_lock : MethodName := ⟨RX5, "lock", "(II)V"⟩
abbrev cX5_unlock : ByteArray := prog_7_method_23_code
def yX5_unlock : MethodName := ⟨RX5, "unlock", "(II)V"⟩
abbrev cX5_writesAt : ByteArray := prog_7_method_24_code
def yX5_writesAt : MethodName := ⟨RX5, "writesAt", "(II)Z"⟩
abbrev cX5_comes : ByteArray := prog_7_method_25_code
def yX5_comes : MethodName := ⟨RX5, "comes", "(IIZ)V"⟩
abbrev cX5_becomes : ByteArray := prog_7_method_26_code
def yX5_becomes : MethodName := ⟨RX5, "becomes", "(I)V"⟩
abbrev cX5_commit : ByteArray := prog_7_method_27_code
def yX5_commit : MethodName := ⟨RX5, "commit", "(I)I"⟩
abbrev cX5_abort : ByteArray := prog_7_method_28_code
def yX5_abort : MethodName := ⟨RX5, "abort", "(I)I"⟩
abbrev cX5_isMessage : ByteArray := prog_7_method_29_code
def yX5_isMessage : MethodName := ⟨RX5, "isMessage", "(I)Z"⟩
abbrev cX5_canCome : ByteArray := prog_7_method_30_code
def yX5_canCome : MethodName := ⟨RX5, "canCome", "(I)Z"⟩
abbrev cX5_comesNow : ByteArray := prog_7_method_31_code
def yX5_comesNow : MethodName := ⟨RX5, "comesNow", "(I)I"⟩
abbrev cX5_refused : ByteArray := prog_7_method_32_code
def yX5_refused : MethodName := ⟨RX5, "refused", "(I)V"⟩
abbrev cX5_deliver : ByteArray := prog_7_method_33_code
def yX5_deliver : MethodName := ⟨RX5, "deliver", "(I)I"⟩
abbrev cX5_all : ByteArray := prog_7_method_34_code
def yX5_all : MethodName := ⟨RX5, "all", "(I)I"⟩
abbrev cX5_message : ByteArray := prog_7_method_35_code
def yX5_message : MethodName := ⟨RX5, "message", "(II)I"⟩
abbrev cX5_isSafe : ByteArray := prog_7_method_36_code
def yX5_isSafe : MethodName := ⟨RX5, "isSafe", "(I)Z"⟩
abbrev cX5_told : ByteArray := prog_7_method_37_code
def yX5_told : MethodName := ⟨RX5, "told", "(II)I"⟩
abbrev cX5_start : ByteArray := prog_7_method_38_code
def yX5_start : MethodName := ⟨RX5, "start", "(II)I"⟩
abbrev cX5_had : ByteArray := prog_7_method_39_code
def yX5_had : MethodName := ⟨RX5, "had", "(II)I"⟩
abbrev cX5_locked : ByteArray := prog_7_method_40_code
def yX5_locked : MethodName := ⟨RX5, "locked", "(II)I"⟩
abbrev cX5_sees : ByteArray := prog_7_method_41_code
def yX5_sees : MethodName := ⟨RX5, "sees", "(II)I"⟩
abbrev cX5_calm : ByteArray := prog_7_method_42_code
def yX5_calm : MethodName := ⟨RX5, "calm", "()I"⟩
abbrev cX5_count : ByteArray := prog_7_method_43_code
def yX5_count : MethodName := ⟨RX5, "count", "(I)I"⟩
def RJx145de : String := "java/io/Serializable"
def TJx145de : u_T := fun k => match k with
  | _ => ("", "", "", false)
def tyJx145de : Nat → FieldType := fun k => match k with
  | _ => .int
abbrev wsJx145de0 : List Cond := u_ws RJx145de TJx145de 0
theorem nmJx145de : ∀ a, a < 0 → ∀ b, b < 0 → a ≠ b → (TJx145de a).2.1 ≠ (TJx145de b).2.1 := by decide +kernel
theorem tyJx145de_ok : ∀ k, k < 0 → parseFieldDescriptor (TJx145de k).2.2.1 = some (tyJx145de k) := by decide +kernel
def RJx8e188 : String := "java/lang/Cloneable"
def TJx8e188 : u_T := fun k => match k with
  | _ => ("", "", "", false)
def tyJx8e188 : Nat → FieldType := fun k => match k with
  | _ => .int
abbrev wsJx8e1880 : List Cond := u_ws RJx8e188 TJx8e188 0
theorem nmJx8e188 : ∀ a, a < 0 → ∀ b, b < 0 → a ≠ b → (TJx8e188 a).2.1 ≠ (TJx8e188 b).2.1 := by decide +kernel
theorem tyJx8e188_ok : ∀ k, k < 0 → parseFieldDescriptor (TJx8e188 k).2.2.1 = some (tyJx8e188 k) := by decide +kernel
def RJxab1ab : String := "java/lang/Iterable"
def TJxab1ab : u_T := fun k => match k with
  | _ => ("", "", "", false)
def tyJxab1ab : Nat → FieldType := fun k => match k with
  | _ => .int
abbrev wsJxab1ab0 : List Cond := u_ws RJxab1ab TJxab1ab 0
theorem nmJxab1ab : ∀ a, a < 0 → ∀ b, b < 0 → a ≠ b → (TJxab1ab a).2.1 ≠ (TJxab1ab b).2.1 := by decide +kernel
theorem tyJxab1ab_ok : ∀ k, k < 0 → parseFieldDescriptor (TJxab1ab k).2.2.1 = some (tyJxab1ab k) := by decide +kernel
def RJ9 : String := "java/lang/Math"
def TJ9 : u_T := fun k => match k with
  | _ => ("", "", "", false)
def tyJ9 : Nat → FieldType := fun k => match k with
  | _ => .int
abbrev wsJ90 : List Cond := u_ws RJ9 TJ9 0
theorem nmJ9 : ∀ a, a < 0 → ∀ b, b < 0 → a ≠ b → (TJ9 a).2.1 ≠ (TJ9 b).2.1 := by decide +kernel
theorem tyJ9_ok : ∀ k, k < 0 → parseFieldDescriptor (TJ9 k).2.2.1 = some (tyJ9 k) := by decide +kernel
abbrev cJ9_max_7cf53 : ByteArray := prog_11_method_65_code
def yJ9_max_7cf53 : MethodName := ⟨RJ9, "max", "(II)I"⟩
abbrev cJ9_min_7cf53 : ByteArray := prog_11_method_69_code
def yJ9_min_7cf53 : MethodName := ⟨RJ9, "min", "(II)I"⟩
def RJ10 : String := "java/lang/System"
def TJ10 : u_T := fun k => match k with
  | _ => ("", "", "", false)
def tyJ10 : Nat → FieldType := fun k => match k with
  | _ => .int
abbrev wsJ100 : List Cond := u_ws RJ10 TJ10 0
theorem nmJ10 : ∀ a, a < 0 → ∀ b, b < 0 → a ≠ b → (TJ10 a).2.1 ≠ (TJ10 b).2.1 := by decide +kernel
theorem tyJ10_ok : ∀ k, k < 0 → parseFieldDescriptor (TJ10 k).2.2.1 = some (tyJ10 k) := by decide +kernel
def RJxa1e45 : String := "java/util/AbstractCollection"
def TJxa1e45 : u_T := fun k => match k with
  | _ => ("", "", "", false)
def tyJxa1e45 : Nat → FieldType := fun k => match k with
  | _ => .int
abbrev wsJxa1e450 : List Cond := u_ws RJxa1e45 TJxa1e45 0
theorem nmJxa1e45 : ∀ a, a < 0 → ∀ b, b < 0 → a ≠ b → (TJxa1e45 a).2.1 ≠ (TJxa1e45 b).2.1 := by decide +kernel
theorem tyJxa1e45_ok : ∀ k, k < 0 → parseFieldDescriptor (TJxa1e45 k).2.2.1 = some (tyJxa1e45 k) := by decide +kernel
abbrev cJxa1e45_init_da8c8 : ByteArray := prog_13_method_1_code
def yJxa1e45_init_da8c8 : MethodName := ⟨RJxa1e45, "<init>", "()V"⟩
def RJxc12de : String := "java/util/AbstractList"
def TJxc12de : u_T := fun k => match k with
  | _ => ("", "", "", false)
def tyJxc12de : Nat → FieldType := fun k => match k with
  | _ => .int
abbrev wsJxc12de0 : List Cond := u_ws RJxc12de TJxc12de 0
theorem nmJxc12de : ∀ a, a < 0 → ∀ b, b < 0 → a ≠ b → (TJxc12de a).2.1 ≠ (TJxc12de b).2.1 := by decide +kernel
theorem tyJxc12de_ok : ∀ k, k < 0 → parseFieldDescriptor (TJxc12de k).2.2.1 = some (tyJxc12de k) := by decide +kernel
abbrev cJxc12de_init_da8c8 : ByteArray := prog_14_method_1_code
def yJxc12de_init_da8c8 : MethodName := ⟨RJxc12de, "<init>", "()V"⟩
def RJx4a65c : String := "java/util/ArrayList"
def TJx4a65c : u_T := fun k => match k with
  | 0 => ("java/util/AbstractList", "modCount", "I", false)
  | 1 => ("java/util/ArrayList", "elementData", "[Ljava/lang/Object;", false)
  | _ => ("java/util/ArrayList", "size", "I", false)
def tyJx4a65c : Nat → FieldType := fun k => match k with
  | 0 => .int
  | 1 => .array (.object "java/lang/Object")
  | _ => .int
abbrev wsJx4a65c0 : List Cond := u_ws RJx4a65c TJx4a65c 3
theorem nmJx4a65c : ∀ a, a < 3 → ∀ b, b < 3 → a ≠ b → (TJx4a65c a).2.1 ≠ (TJx4a65c b).2.1 := by decide +kernel
theorem tyJx4a65c_ok : ∀ k, k < 3 → parseFieldDescriptor (TJx4a65c k).2.2.1 = some (tyJx4a65c k) := by decide +kernel
abbrev cJx4a65c_init_da8c8 : ByteArray := prog_15_method_2_code
def yJx4a65c_init_da8c8 : MethodName := ⟨RJx4a65c, "<init>", "()V"⟩
abbrev cJx4a65c_grow_92f84 : ByteArray := prog_15_method_6_code
def yJx4a65c_grow_92f84 : MethodName := ⟨RJx4a65c, "grow", "(I)[Ljava/lang/Object;"⟩
abbrev cJx4a65c_grow_d5877 : ByteArray := prog_15_method_7_code
def yJx4a65c_grow_d5877 : MethodName := ⟨RJx4a65c, "grow", "()[Ljava/lang/Object;"⟩
abbrev cJx4a65c_size_8abf5 : ByteArray := prog_15_method_8_code
def yJx4a65c_size_8abf5 : MethodName := ⟨RJx4a65c, "size", "()I"⟩
abbrev cJx4a65c_isEmpty_aae02 : ByteArray := prog_15_method_9_code
def yJx4a65c_isEmpty_aae02 : MethodName := ⟨RJx4a65c, "isEmpty", "()Z"⟩
abbrev cJx4a65c_elementData_915e3 : ByteArray := prog_15_method_18_code
def yJx4a65c_elementData_915e3 : MethodName := ⟨RJx4a65c, "elementData", "(I)Ljava/lang/Object;"⟩
abbrev cJx4a65c_get_915e3 : ByteArray := prog_15_method_20_code
def yJx4a65c_get_915e3 : MethodName := ⟨RJx4a65c, "get", "(I)Ljava/lang/Object;"⟩
abbrev cJx4a65c_add_72be8 : ByteArray := prog_15_method_24_code
def yJx4a65c_add_72be8 : MethodName := ⟨RJx4a65c, "add", "(Ljava/lang/Object;[Ljava/lang/Object;I)V"⟩
abbrev cJx4a65c_add_9ea2d : ByteArray := prog_15_method_25_code
def yJx4a65c_add_9ea2d : MethodName := ⟨RJx4a65c, "add", "(Ljava/lang/Object;)Z"⟩
abbrev cJx4a65c_remove_915e3 : ByteArray := prog_15_method_29_code
def yJx4a65c_remove_915e3 : MethodName := ⟨RJx4a65c, "remove", "(I)Ljava/lang/Object;"⟩
abbrev cJx4a65c_fastRemove_b59b0 : ByteArray := prog_15_method_39_code
def yJx4a65c_fastRemove_b59b0 : MethodName := ⟨RJx4a65c, "fastRemove", "([Ljava/lang/Object;I)V"⟩
def RJ7 : String := "java/util/Arrays"
def TJ7 : u_T := fun k => match k with
  | _ => ("", "", "", false)
def tyJ7 : Nat → FieldType := fun k => match k with
  | _ => .int
abbrev wsJ70 : List Cond := u_ws RJ7 TJ7 0
theorem nmJ7 : ∀ a, a < 0 → ∀ b, b < 0 → a ≠ b → (TJ7 a).2.1 ≠ (TJ7 b).2.1 := by decide +kernel
theorem tyJ7_ok : ∀ k, k < 0 → parseFieldDescriptor (TJ7 k).2.2.1 = some (tyJ7 k) := by decide +kernel
abbrev cJ7_fill_53178 : ByteArray := prog_16_method_103_code
def yJ7_fill_53178 : MethodName := ⟨RJ7, "fill", "([II)V"⟩
abbrev cJ7_copyOf_1904c : ByteArray := prog_16_method_119_code
def yJ7_copyOf_1904c : MethodName := ⟨RJ7, "copyOf", "([Ljava/lang/Object;I)[Ljava/lang/Object;"⟩
abbrev cJ7_copyOf_6403c : ByteArray := prog_16_method_120_code
def yJ7_copyOf_6403c : MethodName := ⟨RJ7, "copyOf", "([Ljava/lang/Object;ILjava/lang/Class;)[Ljava/lang/Object;"⟩
def RJx5ef63 : String := "java/util/Collection"
def TJx5ef63 : u_T := fun k => match k with
  | _ => ("", "", "", false)
def tyJx5ef63 : Nat → FieldType := fun k => match k with
  | _ => .int
abbrev wsJx5ef630 : List Cond := u_ws RJx5ef63 TJx5ef63 0
theorem nmJx5ef63 : ∀ a, a < 0 → ∀ b, b < 0 → a ≠ b → (TJx5ef63 a).2.1 ≠ (TJx5ef63 b).2.1 := by decide +kernel
theorem tyJx5ef63_ok : ∀ k, k < 0 → parseFieldDescriptor (TJx5ef63 k).2.2.1 = some (tyJx5ef63 k) := by decide +kernel
def RJxbd725 : String := "java/util/List"
def TJxbd725 : u_T := fun k => match k with
  | _ => ("", "", "", false)
def tyJxbd725 : Nat → FieldType := fun k => match k with
  | _ => .int
abbrev wsJxbd7250 : List Cond := u_ws RJxbd725 TJxbd725 0
theorem nmJxbd725 : ∀ a, a < 0 → ∀ b, b < 0 → a ≠ b → (TJxbd725 a).2.1 ≠ (TJxbd725 b).2.1 := by decide +kernel
theorem tyJxbd725_ok : ∀ k, k < 0 → parseFieldDescriptor (TJxbd725 k).2.2.1 = some (tyJxbd725 k) := by decide +kernel
def RJ15 : String := "java/util/Objects"
def TJ15 : u_T := fun k => match k with
  | _ => ("", "", "", false)
def tyJ15 : Nat → FieldType := fun k => match k with
  | _ => .int
abbrev wsJ150 : List Cond := u_ws RJ15 TJ15 0
theorem nmJ15 : ∀ a, a < 0 → ∀ b, b < 0 → a ≠ b → (TJ15 a).2.1 ≠ (TJ15 b).2.1 := by decide +kernel
theorem tyJ15_ok : ∀ k, k < 0 → parseFieldDescriptor (TJ15 k).2.2.1 = some (tyJ15 k) := by decide +kernel
abbrev cJ15_checkIndex_7cf53 : ByteArray := prog_19_method_17_code
def yJ15_checkIndex_7cf53 : MethodName := ⟨RJ15, "checkIndex", "(II)I"⟩
def RJxf0a74 : String := "java/util/RandomAccess"
def TJxf0a74 : u_T := fun k => match k with
  | _ => ("", "", "", false)
def tyJxf0a74 : Nat → FieldType := fun k => match k with
  | _ => .int
abbrev wsJxf0a740 : List Cond := u_ws RJxf0a74 TJxf0a74 0
theorem nmJxf0a74 : ∀ a, a < 0 → ∀ b, b < 0 → a ≠ b → (TJxf0a74 a).2.1 ≠ (TJxf0a74 b).2.1 := by decide +kernel
theorem tyJxf0a74_ok : ∀ k, k < 0 → parseFieldDescriptor (TJxf0a74 k).2.2.1 = some (tyJxf0a74 k) := by decide +kernel
def RJxa66e6 : String := "java/util/SequencedCollection"
def TJxa66e6 : u_T := fun k => match k with
  | _ => ("", "", "", false)
def tyJxa66e6 : Nat → FieldType := fun k => match k with
  | _ => .int
abbrev wsJxa66e60 : List Cond := u_ws RJxa66e6 TJxa66e6 0
theorem nmJxa66e6 : ∀ a, a < 0 → ∀ b, b < 0 → a ≠ b → (TJxa66e6 a).2.1 ≠ (TJxa66e6 b).2.1 := by decide +kernel
theorem tyJxa66e6_ok : ∀ k, k < 0 → parseFieldDescriptor (TJxa66e6 k).2.2.1 = some (tyJxa66e6 k) := by decide +kernel
def RJ8 : String := "jdk/internal/util/ArraysSupport"
def TJ8 : u_T := fun k => match k with
  | _ => ("", "", "", false)
def tyJ8 : Nat → FieldType := fun k => match k with
  | _ => .int
abbrev wsJ80 : List Cond := u_ws RJ8 TJ8 0
theorem nmJ8 : ∀ a, a < 0 → ∀ b, b < 0 → a ≠ b → (TJ8 a).2.1 ≠ (TJ8 b).2.1 := by decide +kernel
theorem tyJ8_ok : ∀ k, k < 0 → parseFieldDescriptor (TJ8 k).2.2.1 = some (tyJ8 k) := by decide +kernel
abbrev cJ8_newLength_cabcc : ByteArray := prog_22_method_27_code
def yJ8_newLength_cabcc : MethodName := ⟨RJ8, "newLength", "(III)I"⟩
abbrev cJ8_hugeLength_7cf53 : ByteArray := prog_22_method_28_code
def yJ8_hugeLength_7cf53 : MethodName := ⟨RJ8, "hugeLength", "(II)I"⟩
def RJ3 : String := "jdk/internal/util/Preconditions"
def TJ3 : u_T := fun k => match k with
  | _ => ("", "", "", false)
def tyJ3 : Nat → FieldType := fun k => match k with
  | _ => .int
abbrev wsJ30 : List Cond := u_ws RJ3 TJ3 0
theorem nmJ3 : ∀ a, a < 0 → ∀ b, b < 0 → a ≠ b → (TJ3 a).2.1 ≠ (TJ3 b).2.1 := by decide +kernel
theorem tyJ3_ok : ∀ k, k < 0 → parseFieldDescriptor (TJ3 k).2.2.1 = some (tyJ3 k) := by decide +kernel
abbrev cJ3_checkIndex_8e157 : ByteArray := prog_23_method_11_code
def yJ3_checkIndex_8e157 : MethodName := ⟨RJ3, "checkIndex", "(IILjava/util/function/BiFunction;)I"⟩
def RL : String := "FarStoreLaw"
abbrev cL_law : ByteArray := code
def yL_law : MethodName := ⟨RL, "law", "([I)Z"⟩
abbrev vwCl : List vw_C := [(RJx4a65c, TJx4a65c, 3), (RX0, TX0, 4), (RX1, TX1, 4), (RX2, TX2, 3), (RX3, TX3, 14), (RX4, TX4, 6), (RX5, TX5, 27)]
