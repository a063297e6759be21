def RX0 : String := "FaultHeaps$Distances"
def TX0 : u_T := fun k => match k with
  | 0 => ("FaultHeaps$Distances", "bare", "[[I", true)
  | 1 => ("FaultHeaps$Distances", "bareLengths", "[I", true)
  | 2 => ("FaultHeaps$Distances", "isOther", "[Z", true)
  | 3 => ("FaultHeaps$Distances", "known", "[[I", true)
  | _ => ("FaultHeaps$Distances", "least", "[[I", true)
def tyX0 : Nat → FieldType := fun k => match k with
  | 0 => .array (.array .int)
  | 1 => .array .int
  | 2 => .array .boolean
  | 3 => .array (.array .int)
  | _ => .array (.array .int)
abbrev wsX00 : List Cond := u_ws RX0 TX0 5
theorem nmX0 : ∀ a, a < 5 → ∀ b, b < 5 → a ≠ b → (TX0 a).2.1 ≠ (TX0 b).2.1 := by decide +kernel
theorem tyX0_ok : ∀ k, k < 5 → parseFieldDescriptor (TX0 k).2.2.1 = some (tyX0 k) := by decide +kernel
abbrev cX0_init : ByteArray := prog_2_method_1_code
def yX0_init : MethodName := ⟨RX0, "<init>", "()V"⟩
abbrev cX0_between : ByteArray := prog_2_method_2_code
def yX0_between : MethodName := ⟨RX0, "between", "(II)I"⟩
abbrev cX0_renew : ByteArray := prog_2_method_3_code
def yX0_renew : MethodName := ⟨RX0, "renew", "(LFaultHeaps$Reports;)V"⟩
abbrev cX0_strip : ByteArray := prog_2_method_4_code
def yX0_strip : MethodName := ⟨RX0, "strip", "(LFaultHeaps$Reports;I)Z"⟩
abbrev cX0_measure : ByteArray := prog_2_method_5_code
def yX0_measure : MethodName := ⟨RX0, "measure", "(II)I"⟩
abbrev cX0_costOfOne : ByteArray := prog_2_method_6_code
def yX0_costOfOne : MethodName := ⟨RX0, "costOfOne", "(I)I"⟩
abbrev cX0_costOfChange : ByteArray := prog_2_method_7_code
def yX0_costOfChange : MethodName := ⟨RX0, "costOfChange", "(II)I"⟩
def RX1 : String := "FaultHeaps$Heaps"
def TX1 : u_T := fun k => match k with
  | 0 => ("FaultHeaps$Heaps", "wishes", "[[I", true)
  | 1 => ("FaultHeaps$Heaps", "heapOf", "[I", true)
  | 2 => ("FaultHeaps$Heaps", "leastIn", "[I", true)
  | 3 => ("FaultHeaps$Heaps", "sizes", "[I", true)
  | 4 => ("FaultHeaps$Heaps", "newNumbers", "[I", true)
  | 5 => ("FaultHeaps$Heaps", "joining", "[[I", true)
  | 6 => ("FaultHeaps$Heaps", "melting", "[[I", true)
  | 7 => ("FaultHeaps$Heaps", "reportsNumber", "I", false)
  | 8 => ("FaultHeaps$Heaps", "heapsNumber", "I", false)
  | 9 => ("FaultHeaps$Heaps", "limit", "I", false)
  | 10 => ("FaultHeaps$Heaps", "changes", "I", false)
  | 11 => ("FaultHeaps$Heaps", "bestAdded", "I", false)
  | 12 => ("FaultHeaps$Heaps", "bestReport", "I", false)
  | 13 => ("FaultHeaps$Heaps", "bestMelted", "I", false)
  | _ => ("FaultHeaps$Heaps", "bestInto", "I", false)
def tyX1 : Nat → FieldType := fun k => match k with
  | 0 => .array (.array .int)
  | 1 => .array .int
  | 2 => .array .int
  | 3 => .array .int
  | 4 => .array .int
  | 5 => .array (.array .int)
  | 6 => .array (.array .int)
  | 7 => .int
  | 8 => .int
  | 9 => .int
  | 10 => .int
  | 11 => .int
  | 12 => .int
  | 13 => .int
  | _ => .int
abbrev wsX10 : List Cond := u_ws RX1 TX1 15
theorem nmX1 : ∀ a, a < 15 → ∀ b, b < 15 → a ≠ b → (TX1 a).2.1 ≠ (TX1 b).2.1 := by decide +kernel
theorem tyX1_ok : ∀ k, k < 15 → parseFieldDescriptor (TX1 k).2.2.1 = some (tyX1 k) := by decide +kernel
abbrev cX1_init : ByteArray := prog_3_method_1_code
def yX1_init : MethodName := ⟨RX1, "<init>", "()V"⟩
abbrev cX1_howMany : ByteArray := prog_3_method_2_code
def yX1_howMany : MethodName := ⟨RX1, "howMany", "()I"⟩
abbrev cX1_getT : ByteArray := prog_3_method_3_code
def yX1_getT : MethodName := ⟨RX1, "getT", "()I"⟩
abbrev cX1_changesDone : ByteArray := prog_3_method_4_code
def yX1_changesDone : MethodName := ⟨RX1, "changesDone", "()I"⟩
abbrev cX1_setT : ByteArray := prog_3_method_5_code
def yX1_setT : MethodName := ⟨RX1, "setT", "(I)Z"⟩
abbrev cX1_hasWish : ByteArray := prog_3_method_6_code
def yX1_hasWish : MethodName := ⟨RX1, "hasWish", "(II)Z"⟩
abbrev cX1_wish : ByteArray := prog_3_method_7_code
def yX1_wish : MethodName := ⟨RX1, "wish", "(III)V"⟩
abbrev cX1_areTogether : ByteArray := prog_3_method_8_code
def yX1_areTogether : MethodName := ⟨RX1, "areTogether", "(II)Z"⟩
abbrev cX1_leastBeside : ByteArray := prog_3_method_9_code
def yX1_leastBeside : MethodName := ⟨RX1, "leastBeside", "(I)I"⟩
abbrev cX1_sizeBeside : ByteArray := prog_3_method_10_code
def yX1_sizeBeside : MethodName := ⟨RX1, "sizeBeside", "(I)I"⟩
abbrev cX1_setBeside : ByteArray := prog_3_method_11_code
def yX1_setBeside : MethodName := ⟨RX1, "setBeside", "(I)J"⟩
abbrev cX1_costOfPair : ByteArray := prog_3_method_12_code
def yX1_costOfPair : MethodName := ⟨RX1, "costOfPair", "(IILFaultHeaps$Distances;)I"⟩
abbrev cX1_costOfAll : ByteArray := prog_3_method_13_code
def yX1_costOfAll : MethodName := ⟨RX1, "costOfAll", "(LFaultHeaps$Distances;)I"⟩
abbrev cX1_addAlone : ByteArray := prog_3_method_14_code
def yX1_addAlone : MethodName := ⟨RX1, "addAlone", "()V"⟩
abbrev cX1_partAll : ByteArray := prog_3_method_15_code
def yX1_partAll : MethodName := ⟨RX1, "partAll", "()V"⟩
abbrev cX1_settle : ByteArray := prog_3_method_16_code
def yX1_settle : MethodName := ⟨RX1, "settle", "(LFaultHeaps$Distances;)V"⟩
abbrev cX1_weighJoining : ByteArray := prog_3_method_17_code
def yX1_weighJoining : MethodName := ⟨RX1, "weighJoining", "(LFaultHeaps$Distances;)V"⟩
abbrev cX1_weighMelting : ByteArray := prog_3_method_18_code
def yX1_weighMelting : MethodName := ⟨RX1, "weighMelting", "()V"⟩
abbrev cX1_findBest : ByteArray := prog_3_method_19_code
def yX1_findBest : MethodName := ⟨RX1, "findBest", "()V"⟩
abbrev cX1_findBestMove : ByteArray := prog_3_method_20_code
def yX1_findBestMove : MethodName := ⟨RX1, "findBestMove", "(I)V"⟩
abbrev cX1_weighMove : ByteArray := prog_3_method_21_code
def yX1_weighMove : MethodName := ⟨RX1, "weighMove", "(III)V"⟩
abbrev cX1_doBest : ByteArray := prog_3_method_22_code
def yX1_doBest : MethodName := ⟨RX1, "doBest", "()V"⟩
abbrev cX1_numberAnew : ByteArray := prog_3_method_23_code
def yX1_numberAnew : MethodName := ⟨RX1, "numberAnew", "()V"⟩
def RX2 : String := "FaultHeaps$Marks"
def TX2 : u_T := fun k => match k with
  | 0 => ("FaultHeaps$Marks", "shared", "[I", true)
  | 1 => ("FaultHeaps$Marks", "holders", "[J", true)
  | 2 => ("FaultHeaps$Marks", "sharedNumber", "I", false)
  | 3 => ("FaultHeaps$Marks", "latest", "[I", true)
  | _ => ("FaultHeaps$Marks", "latestLength", "I", false)
def tyX2 : Nat → FieldType := fun k => match k with
  | 0 => .array .int
  | 1 => .array .long
  | 2 => .int
  | 3 => .array .int
  | _ => .int
abbrev wsX20 : List Cond := u_ws RX2 TX2 5
theorem nmX2 : ∀ a, a < 5 → ∀ b, b < 5 → a ≠ b → (TX2 a).2.1 ≠ (TX2 b).2.1 := by decide +kernel
theorem tyX2_ok : ∀ k, k < 5 → parseFieldDescriptor (TX2 k).2.2.1 = some (tyX2 k) := by decide +kernel
abbrev cX2_init : ByteArray := prog_4_method_1_code
def yX2_init : MethodName := ⟨RX2, "<init>", "()V"⟩
abbrev cX2_latestAt : ByteArray := prog_4_method_2_code
def yX2_latestAt : MethodName := ⟨RX2, "latestAt", "(I)I"⟩
abbrev cX2_tell : ByteArray := prog_4_method_3_code
def yX2_tell : MethodName := ⟨RX2, "tell", "(LFaultHeaps$Reports;J)I"⟩
abbrev cX2_gatherShared : ByteArray := prog_4_method_4_code
def yX2_gatherShared : MethodName := ⟨RX2, "gatherShared", "(LFaultHeaps$Reports;J)V"⟩
abbrev cX2_findOne : ByteArray := prog_4_method_5_code
def yX2_findOne : MethodName := ⟨RX2, "findOne", "(J)Z"⟩
abbrev cX2_findTwo : ByteArray := prog_4_method_6_code
def yX2_findTwo : MethodName := ⟨RX2, "findTwo", "(J)Z"⟩
abbrev cX2_findThree : ByteArray := prog_4_method_7_code
def yX2_findThree : MethodName := ⟨RX2, "findThree", "(J)Z"⟩
def RX3 : String := "FaultHeaps$Reports"
def TX3 : u_T := fun k => match k with
  | 0 => ("FaultHeaps$Reports", "rows", "[[I", true)
  | 1 => ("FaultHeaps$Reports", "lengths", "[I", true)
  | 2 => ("FaultHeaps$Reports", "madeIn", "[I", true)
  | 3 => ("FaultHeaps$Reports", "fixedIn", "[I", true)
  | 4 => ("FaultHeaps$Reports", "holders", "[J", true)
  | _ => ("FaultHeaps$Reports", "number", "I", false)
def tyX3 : Nat → FieldType := fun k => match k with
  | 0 => .array (.array .int)
  | 1 => .array .int
  | 2 => .array .int
  | 3 => .array .int
  | 4 => .array .long
  | _ => .int
abbrev wsX30 : List Cond := u_ws RX3 TX3 6
theorem nmX3 : ∀ a, a < 6 → ∀ b, b < 6 → a ≠ b → (TX3 a).2.1 ≠ (TX3 b).2.1 := by decide +kernel
theorem tyX3_ok : ∀ k, k < 6 → parseFieldDescriptor (TX3 k).2.2.1 = some (tyX3 k) := by decide +kernel
abbrev cX3_init : ByteArray := prog_5_method_1_code
def yX3_init : MethodName := ⟨RX3, "<init>", "()V"⟩
abbrev cX3_has : ByteArray := prog_5_method_2_code
def yX3_has : MethodName := ⟨RX3, "has", "(I)Z"⟩
abbrev cX3_hasTwo : ByteArray := prog_5_method_3_code
def yX3_hasTwo : MethodName := ⟨RX3, "hasTwo", "(II)Z"⟩
abbrev cX3_hasFrame : ByteArray := prog_5_method_4_code
def yX3_hasFrame : MethodName := ⟨RX3, "hasFrame", "(II)Z"⟩
abbrev cX3_isFull : ByteArray := prog_5_method_5_code
def yX3_isFull : MethodName := ⟨RX3, "isFull", "()Z"⟩
abbrev cX3_howMany : ByteArray := prog_5_method_6_code
def yX3_howMany : MethodName := ⟨RX3, "howMany", "()I"⟩
abbrev cX3_add : ByteArray := prog_5_method_7_code
def yX3_add : MethodName := ⟨RX3, "add", "(LFaultHeaps$ToldRow;I)I"⟩
abbrev cX3_frameAt : ByteArray := prog_5_method_8_code
def yX3_frameAt : MethodName := ⟨RX3, "frameAt", "(II)I"⟩
abbrev cX3_lengthOf : ByteArray := prog_5_method_9_code
def yX3_lengthOf : MethodName := ⟨RX3, "lengthOf", "(I)I"⟩
abbrev cX3_versionOf : ByteArray := prog_5_method_10_code
def yX3_versionOf : MethodName := ⟨RX3, "versionOf", "(I)I"⟩
abbrev cX3_fixedAt : ByteArray := prog_5_method_11_code
def yX3_fixedAt : MethodName := ⟨RX3, "fixedAt", "(I)I"⟩
abbrev cX3_setFixedAt : ByteArray := prog_5_method_12_code
def yX3_setFixedAt : MethodName := ⟨RX3, "setFixedAt", "(II)V"⟩
abbrev cX3_holdersOf : ByteArray := prog_5_method_13_code
def yX3_holdersOf : MethodName := ⟨RX3, "holdersOf", "(I)J"⟩
abbrev cX3_isCommon : ByteArray := prog_5_method_14_code
def yX3_isCommon : MethodName := ⟨RX3, "isCommon", "(I)Z"⟩
abbrev cX3_howManyCommon : ByteArray := prog_5_method_15_code
def yX3_howManyCommon : MethodName := ⟨RX3, "howManyCommon", "()I"⟩
def RX4 : String := "FaultHeaps$ToldRow"
def TX4 : u_T := fun k => match k with
  | 0 => ("FaultHeaps$ToldRow", "frames", "[I", true)
  | _ => ("FaultHeaps$ToldRow", "length", "I", false)
def tyX4 : Nat → FieldType := fun k => match k with
  | 0 => .array .int
  | _ => .int
abbrev wsX40 : List Cond := u_ws RX4 TX4 2
theorem nmX4 : ∀ a, a < 2 → ∀ b, b < 2 → a ≠ b → (TX4 a).2.1 ≠ (TX4 b).2.1 := by decide +kernel
theorem tyX4_ok : ∀ k, k < 2 → parseFieldDescriptor (TX4 k).2.2.1 = some (tyX4 k) := by decide +kernel
abbrev cX4_init : ByteArray := prog_6_method_1_code
def yX4_init : MethodName := ⟨RX4, "<init>", "()V"⟩
abbrev cX4_put : ByteArray := prog_6_method_2_code
def yX4_put : MethodName := ⟨RX4, "put", "(I)I"⟩
abbrev cX4_isEmpty : ByteArray := prog_6_method_3_code
def yX4_isEmpty : MethodName := ⟨RX4, "isEmpty", "()Z"⟩
abbrev cX4_howMany : ByteArray := prog_6_method_4_code
def yX4_howMany : MethodName := ⟨RX4, "howMany", "()I"⟩
abbrev cX4_at : ByteArray := prog_6_method_5_code
def yX4_at : MethodName := ⟨RX4, "at", "(I)I"⟩
abbrev cX4_clear : ByteArray := prog_6_method_6_code
def yX4_clear : MethodName := ⟨RX4, "clear", "()V"⟩
abbrev cX4_fold : ByteArray := prog_6_method_7_code
def yX4_fold : MethodName := ⟨RX4, "fold", "()V"⟩
abbrev cX4_foldOnce : ByteArray := prog_6_method_8_code
def yX4_foldOnce : MethodName := ⟨RX4, "foldOnce", "()Z"⟩
abbrev cX4_standsTwice : ByteArray := prog_6_method_9_code
def yX4_standsTwice : MethodName := ⟨RX4, "standsTwice", "(II)Z"⟩
abbrev cX4_cut : ByteArray := prog_6_method_10_code
def yX4_cut : MethodName := ⟨RX4, "cut", "(II)V"⟩
def RX5 : String := "FaultHeaps$Versions"
def TX5 : u_T := fun k => match k with
  | 0 => ("FaultHeaps$Versions", "lines", "[I", true)
  | _ => ("FaultHeaps$Versions", "number", "I", false)
def tyX5 : Nat → FieldType := fun k => match k with
  | 0 => .array .int
  | _ => .int
abbrev wsX50 : List Cond := u_ws RX5 TX5 2
theorem nmX5 : ∀ a, a < 2 → ∀ b, b < 2 → a ≠ b → (TX5 a).2.1 ≠ (TX5 b).2.1 := by decide +kernel
theorem tyX5_ok : ∀ k, k < 2 → parseFieldDescriptor (TX5 k).2.2.1 = some (tyX5 k) := by decide +kernel
abbrev cX5_init : ByteArray := prog_7_method_1_code
def yX5_init : MethodName := ⟨RX5, "<init>", "()V"⟩
abbrev cX5_has : ByteArray := prog_7_method_2_code
def yX5_has : MethodName := ⟨RX5, "has", "(I)Z"⟩
abbrev cX5_howMany : ByteArray := prog_7_method_3_code
def yX5_howMany : MethodName := ⟨RX5, "howMany", "()I"⟩
abbrev cX5_make : ByteArray := prog_7_method_4_code
def yX5_make : MethodName := ⟨RX5, "make", "(I)I"⟩
abbrev cX5_isOrIsBehind : ByteArray := prog_7_method_5_code
def yX5_isOrIsBehind : MethodName := ⟨RX5, "isOrIsBehind", "(II)Z"⟩
def RX6 : String := "FaultHeaps"
def TX6 : u_T := fun k => match k with
  | 0 => ("FaultHeaps", "told", "LFaultHeaps$ToldRow;", true)
  | 1 => ("FaultHeaps", "versions", "LFaultHeaps$Versions;", true)
  | 2 => ("FaultHeaps", "reports", "LFaultHeaps$Reports;", true)
  | 3 => ("FaultHeaps", "distances", "LFaultHeaps$Distances;", true)
  | 4 => ("FaultHeaps", "heaps", "LFaultHeaps$Heaps;", true)
  | _ => ("FaultHeaps", "marks", "LFaultHeaps$Marks;", true)
def tyX6 : Nat → FieldType := fun k => match k with
  | 0 => .object "FaultHeaps$ToldRow"
  | 1 => .object "FaultHeaps$Versions"
  | 2 => .object "FaultHeaps$Reports"
  | 3 => .object "FaultHeaps$Distances"
  | 4 => .object "FaultHeaps$Heaps"
  | _ => .object "FaultHeaps$Marks"
abbrev wsX60 : List Cond := u_ws RX6 TX6 6
theorem nmX6 : ∀ a, a < 6 → ∀ b, b < 6 → a ≠ b → (TX6 a).2.1 ≠ (TX6 b).2.1 := by decide +kernel
theorem tyX6_ok : ∀ k, k < 6 → parseFieldDescriptor (TX6 k).2.2.1 = some (tyX6 k) := by decide +kernel
abbrev cX6_init : ByteArray := prog_1_method_1_code
def yX6_init : MethodName := ⟨RX6, "<init>", "()V"⟩
abbrev cX6_frame : ByteArray := prog_1_method_2_code
def yX6_frame : MethodName := ⟨RX6, "frame", "(I)I"⟩
abbrev cX6_version : ByteArray := prog_1_method_3_code
def yX6_version : MethodName := ⟨RX6, "version", "(I)I"⟩
abbrev cX6_report : ByteArray := prog_1_method_4_code
def yX6_report : MethodName := ⟨RX6, "report", "(I)I"⟩
abbrev cX6_pair : ByteArray := prog_1_method_5_code
def yX6_pair : MethodName := ⟨RX6, "pair", "(IIZ)Z"⟩
abbrev cX6_free : ByteArray := prog_1_method_6_code
def yX6_free : MethodName := ⟨RX6, "free", "(II)Z"⟩
abbrev cX6_mark : ByteArray := prog_1_method_7_code
def yX6_mark : MethodName := ⟨RX6, "mark", "(I)Z"⟩
abbrev cX6_resettle : ByteArray := prog_1_method_8_code
def yX6_resettle : MethodName := ⟨RX6, "resettle", "()I"⟩
abbrev cX6_distance : ByteArray := prog_1_method_9_code
def yX6_distance : MethodName := ⟨RX6, "distance", "(II)I"⟩
abbrev cX6_heap : ByteArray := prog_1_method_10_code
def yX6_heap : MethodName := ⟨RX6, "heap", "(I)I"⟩
abbrev cX6_cost : ByteArray := prog_1_method_11_code
def yX6_cost : MethodName := ⟨RX6, "cost", "(II)I"⟩
abbrev cX6_row : ByteArray := prog_1_method_12_code
def yX6_row : MethodName := ⟨RX6, "row", "(II)I"⟩
abbrev cX6_common : ByteArray := prog_1_method_13_code
def yX6_common : MethodName := ⟨RX6, "common", "(I)I"⟩
abbrev cX6_sign : ByteArray := prog_1_method_14_code
def yX6_sign : MethodName := ⟨RX6, "sign", "(I)I"⟩
abbrev cX6_signed : ByteArray := prog_1_method_15_code
def yX6_signed : MethodName := ⟨RX6, "signed", "(I)I"⟩
abbrev cX6_fix : ByteArray := prog_1_method_16_code
def yX6_fix : MethodName := ⟨RX6, "fix", "(II)Z"⟩
abbrev cX6_look : ByteArray := prog_1_method_17_code
def yX6_look : MethodName := ⟨RX6, "look", "(II)I"⟩
abbrev cX6_behind : ByteArray := prog_1_method_18_code
def yX6_behind : MethodName := ⟨RX6, "behind", "(II)I"⟩
abbrev cX6_count : ByteArray := prog_1_method_19_code
def yX6_count : MethodName := ⟨RX6, "count", "(I)I"⟩
abbrev cX6_cameBack : ByteArray := prog_1_method_20_code
def yX6_cameBack : MethodName := ⟨RX6, "cameBack", "(I)Z"⟩
abbrev cX6_howManyCameBack : ByteArray := prog_1_method_21_code
def yX6_howManyCameBack : MethodName := ⟨RX6, "howManyCameBack", "()I"⟩
def RX7 : String := "FaultHeapsModel"
def TX7 : u_T := fun k => match k with
  | 0 => ("FaultHeapsModel", "thrown", "I", false)
  | 1 => ("FaultHeapsModel", "versions", "I", false)
  | 2 => ("FaultHeapsModel", "madeFrom", "[I", true)
  | 3 => ("FaultHeapsModel", "told", "I", false)
  | 4 => ("FaultHeapsModel", "draft", "[I", true)
  | 5 => ("FaultHeapsModel", "reports", "I", false)
  | 6 => ("FaultHeapsModel", "rows", "[I", true)
  | 7 => ("FaultHeapsModel", "sizes", "[I", true)
  | 8 => ("FaultHeapsModel", "versionOf", "[I", true)
  | 9 => ("FaultHeapsModel", "fixedAt", "[I", true)
  | 10 => ("FaultHeapsModel", "heapOf", "[I", true)
  | 11 => ("FaultHeapsModel", "one", "[I", true)
  | 12 => ("FaultHeapsModel", "two", "[I", true)
  | 13 => ("FaultHeapsModel", "oneMany", "I", false)
  | 14 => ("FaultHeapsModel", "twoMany", "I", false)
  | 15 => ("FaultHeapsModel", "cost", "[I", true)
  | 16 => ("FaultHeapsModel", "distance", "[I", true)
  | 17 => ("FaultHeapsModel", "common", "[Z", true)
  | 18 => ("FaultHeapsModel", "mark", "I", false)
  | 19 => ("FaultHeapsModel", "must", "[I", true)
  | 20 => ("FaultHeapsModel", "changes", "I", false)
  | 21 => ("FaultHeapsModel", "newName", "[I", true)
  | 22 => ("FaultHeapsModel", "bestBy", "I", false)
  | 23 => ("FaultHeapsModel", "bestWho", "I", false)
  | 24 => ("FaultHeapsModel", "bestTo", "I", false)
  | 25 => ("FaultHeapsModel", "bestMelts", "Z", false)
  | 26 => ("FaultHeapsModel", "signs", "I", false)
  | 27 => ("FaultHeapsModel", "sign", "[I", true)
  | 28 => ("FaultHeapsModel", "draftSign", "[I", true)
  | 29 => ("FaultHeapsModel", "shared", "I", false)
  | _ => ("FaultHeapsModel", "share", "[I", true)
def tyX7 : Nat → FieldType := fun k => match k with
  | 0 => .int
  | 1 => .int
  | 2 => .array .int
  | 3 => .int
  | 4 => .array .int
  | 5 => .int
  | 6 => .array .int
  | 7 => .array .int
  | 8 => .array .int
  | 9 => .array .int
  | 10 => .array .int
  | 11 => .array .int
  | 12 => .array .int
  | 13 => .int
  | 14 => .int
  | 15 => .array .int
  | 16 => .array .int
  | 17 => .array .boolean
  | 18 => .int
  | 19 => .array .int
  | 20 => .int
  | 21 => .array .int
  | 22 => .int
  | 23 => .int
  | 24 => .int
  | 25 => .boolean
  | 26 => .int
  | 27 => .array .int
  | 28 => .array .int
  | 29 => .int
  | _ => .array .int
abbrev wsX70 : List Cond := u_ws RX7 TX7 31
theorem nmX7 : ∀ a, a < 31 → ∀ b, b < 31 → a ≠ b → (TX7 a).2.1 ≠ (TX7 b).2.1 := by decide +kernel
theorem tyX7_ok : ∀ k, k < 31 → parseFieldDescriptor (TX7 k).2.2.1 = some (tyX7 k) := by decide +kernel
abbrev cX7_thrown : ByteArray := prog_9_method_1_code
def yX7_thrown : MethodName := ⟨RX7, "thrown", "()I"⟩
abbrev cX7_init : ByteArray := prog_9_method_2_code
def yX7_init : MethodName := ⟨RX7, "<init>", "()V"⟩
abbrev cX7_isVersion : ByteArray := prog_9_method_3_code
def yX7_isVersion : MethodName := ⟨RX7, "isVersion", "(I)Z"⟩
abbrev cX7_version : ByteArray := prog_9_method_4_code
def yX7_version : MethodName := ⟨RX7, "version", "(I)I"⟩
abbrev cX7_isBehind : ByteArray := prog_9_method_5_code
def yX7_isBehind : MethodName := ⟨RX7, "isBehind", "(II)Z"⟩
abbrev cX7_behind : ByteArray := prog_9_method_6_code
def yX7_behind : MethodName := ⟨RX7, "behind", "(II)I"⟩
abbrev cX7_frame : ByteArray := prog_9_method_7_code
def yX7_frame : MethodName := ⟨RX7, "frame", "(I)I"⟩
abbrev cX7_isTwice : ByteArray := prog_9_method_8_code
def yX7_isTwice : MethodName := ⟨RX7, "isTwice", "(II)Z"⟩
abbrev cX7_folds : ByteArray := prog_9_method_9_code
def yX7_folds : MethodName := ⟨RX7, "folds", "()Z"⟩
abbrev cX7_report : ByteArray := prog_9_method_10_code
def yX7_report : MethodName := ⟨RX7, "report", "(I)I"⟩
abbrev cX7_isReport : ByteArray := prog_9_method_11_code
def yX7_isReport : MethodName := ⟨RX7, "isReport", "(I)Z"⟩
abbrev cX7_stands : ByteArray := prog_9_method_12_code
def yX7_stands : MethodName := ⟨RX7, "stands", "(II)Z"⟩
abbrev cX7_isCommon : ByteArray := prog_9_method_13_code
def yX7_isCommon : MethodName := ⟨RX7, "isCommon", "(I)Z"⟩
abbrev cX7_findCommon : ByteArray := prog_9_method_14_code
def yX7_findCommon : MethodName := ⟨RX7, "findCommon", "()V"⟩
abbrev cX7_withoutCommon : ByteArray := prog_9_method_15_code
def yX7_withoutCommon : MethodName := ⟨RX7, "withoutCommon", "(I[I)I"⟩
abbrev cX7_alone : ByteArray := prog_9_method_16_code
def yX7_alone : MethodName := ⟨RX7, "alone", "(I)I"⟩
abbrev cX7_change : ByteArray := prog_9_method_17_code
def yX7_change : MethodName := ⟨RX7, "change", "(II)I"⟩
abbrev cX7_turns : ByteArray := prog_9_method_18_code
def yX7_turns : MethodName := ⟨RX7, "turns", "(II)I"⟩
abbrev cX7_least : ByteArray := prog_9_method_19_code
def yX7_least : MethodName := ⟨RX7, "least", "(II)I"⟩
abbrev cX7_findDistances : ByteArray := prog_9_method_20_code
def yX7_findDistances : MethodName := ⟨RX7, "findDistances", "()V"⟩
abbrev cX7_pairCost : ByteArray := prog_9_method_21_code
def yX7_pairCost : MethodName := ⟨RX7, "pairCost", "(IIZ)I"⟩
abbrev cX7_gain : ByteArray := prog_9_method_22_code
def yX7_gain : MethodName := ⟨RX7, "gain", "(II)I"⟩
abbrev cX7_moved : ByteArray := prog_9_method_23_code
def yX7_moved : MethodName := ⟨RX7, "moved", "(II)I"⟩
abbrev cX7_melted : ByteArray := prog_9_method_24_code
def yX7_melted : MethodName := ⟨RX7, "melted", "(II)I"⟩
abbrev cX7_inHeap : ByteArray := prog_9_method_25_code
def yX7_inHeap : MethodName := ⟨RX7, "inHeap", "(I)I"⟩
abbrev cX7_names : ByteArray := prog_9_method_26_code
def yX7_names : MethodName := ⟨RX7, "names", "()V"⟩
abbrev cX7_asks : ByteArray := prog_9_method_27_code
def yX7_asks : MethodName := ⟨RX7, "asks", "(IIIZ)V"⟩
abbrev cX7_findBest : ByteArray := prog_9_method_28_code
def yX7_findBest : MethodName := ⟨RX7, "findBest", "()V"⟩
abbrev cX7_settles : ByteArray := prog_9_method_29_code
def yX7_settles : MethodName := ⟨RX7, "settles", "()V"⟩
abbrev cX7_resettle : ByteArray := prog_9_method_30_code
def yX7_resettle : MethodName := ⟨RX7, "resettle", "()I"⟩
abbrev cX7_heaps : ByteArray := prog_9_method_31_code
def yX7_heaps : MethodName := ⟨RX7, "heaps", "()I"⟩
abbrev cX7_areTwo : ByteArray := prog_9_method_32_code
def yX7_areTwo : MethodName := ⟨RX7, "areTwo", "(II)Z"⟩
abbrev cX7_tells : ByteArray := prog_9_method_33_code
def yX7_tells : MethodName := ⟨RX7, "tells", "(III)V"⟩
abbrev cX7_pair : ByteArray := prog_9_method_34_code
def yX7_pair : MethodName := ⟨RX7, "pair", "(IIZ)Z"⟩
abbrev cX7_free : ByteArray := prog_9_method_35_code
def yX7_free : MethodName := ⟨RX7, "free", "(II)Z"⟩
abbrev cX7_mark : ByteArray := prog_9_method_36_code
def yX7_mark : MethodName := ⟨RX7, "mark", "(I)Z"⟩
abbrev cX7_distance : ByteArray := prog_9_method_37_code
def yX7_distance : MethodName := ⟨RX7, "distance", "(II)I"⟩
abbrev cX7_heap : ByteArray := prog_9_method_38_code
def yX7_heap : MethodName := ⟨RX7, "heap", "(I)I"⟩
abbrev cX7_cost : ByteArray := prog_9_method_39_code
def yX7_cost : MethodName := ⟨RX7, "cost", "(II)I"⟩
abbrev cX7_row : ByteArray := prog_9_method_40_code
def yX7_row : MethodName := ⟨RX7, "row", "(II)I"⟩
abbrev cX7_common : ByteArray := prog_9_method_41_code
def yX7_common : MethodName := ⟨RX7, "common", "(I)I"⟩
abbrev cX7_findShared : ByteArray := prog_9_method_42_code
def yX7_findShared : MethodName := ⟨RX7, "findShared", "(I)V"⟩
abbrev cX7_isMark : ByteArray := prog_9_method_43_code
def yX7_isMark : MethodName := ⟨RX7, "isMark", "(II)Z"⟩
abbrev cX7_seeks : ByteArray := prog_9_method_44_code
def yX7_seeks : MethodName := ⟨RX7, "seeks", "(IIII)Z"⟩
abbrev cX7_sign : ByteArray := prog_9_method_45_code
def yX7_sign : MethodName := ⟨RX7, "sign", "(I)I"⟩
abbrev cX7_signed : ByteArray := prog_9_method_46_code
def yX7_signed : MethodName := ⟨RX7, "signed", "(I)I"⟩
abbrev cX7_fix : ByteArray := prog_9_method_47_code
def yX7_fix : MethodName := ⟨RX7, "fix", "(II)Z"⟩
abbrev cX7_cameBack : ByteArray := prog_9_method_48_code
def yX7_cameBack : MethodName := ⟨RX7, "cameBack", "(I)Z"⟩
abbrev cX7_look : ByteArray := prog_9_method_49_code
def yX7_look : MethodName := ⟨RX7, "look", "(II)I"⟩
abbrev cX7_count : ByteArray := prog_9_method_50_code
def yX7_count : MethodName := ⟨RX7, "count", "(I)I"⟩
def RJ13 : String := "java/lang/Long"
def TJ13 : u_T := fun k => match k with
  | _ => ("", "", "", false)
def tyJ13 : Nat → FieldType := fun k => match k with
  | _ => .int
abbrev wsJ130 : List Cond := u_ws RJ13 TJ13 0
theorem nmJ13 : ∀ a, a < 0 → ∀ b, b < 0 → a ≠ b → (TJ13 a).2.1 ≠ (TJ13 b).2.1 := by decide +kernel
theorem tyJ13_ok : ∀ k, k < 0 → parseFieldDescriptor (TJ13 k).2.2.1 = some (tyJ13 k) := by decide +kernel
abbrev cJ13_bitCount_95d88 : ByteArray := prog_11_method_50_code
def yJ13_bitCount_95d88 : MethodName := ⟨RJ13, "bitCount", "(J)I"⟩
def RJ9 : String := "java/lang/Math"
def TJ9 : u_T := fun k => match k with
  | _ => ("", "", "", false)
def tyJ9 : Nat → FieldType := fun k => match k with
  | _ => .int
abbrev wsJ90 : List Cond := u_ws RJ9 TJ9 0
theorem nmJ9 : ∀ a, a < 0 → ∀ b, b < 0 → a ≠ b → (TJ9 a).2.1 ≠ (TJ9 b).2.1 := by decide +kernel
theorem tyJ9_ok : ∀ k, k < 0 → parseFieldDescriptor (TJ9 k).2.2.1 = some (tyJ9 k) := by decide +kernel
abbrev cJ9_max_7cf53 : ByteArray := prog_12_method_65_code
def yJ9_max_7cf53 : MethodName := ⟨RJ9, "max", "(II)I"⟩
abbrev cJ9_min_7cf53 : ByteArray := prog_12_method_69_code
def yJ9_min_7cf53 : MethodName := ⟨RJ9, "min", "(II)I"⟩
def RJ0 : String := "java/lang/String"
def TJ0 : u_T := fun k => match k with
  | _ => ("", "", "", false)
def tyJ0 : Nat → FieldType := fun k => match k with
  | _ => .int
abbrev wsJ00 : List Cond := u_ws RJ0 TJ0 0
theorem nmJ0 : ∀ a, a < 0 → ∀ b, b < 0 → a ≠ b → (TJ0 a).2.1 ≠ (TJ0 b).2.1 := by decide +kernel
theorem tyJ0_ok : ∀ k, k < 0 → parseFieldDescriptor (TJ0 k).2.2.1 = some (tyJ0 k) := by decide +kernel
def RJ7 : String := "java/util/Arrays"
def TJ7 : u_T := fun k => match k with
  | _ => ("", "", "", false)
def tyJ7 : Nat → FieldType := fun k => match k with
  | _ => .int
abbrev wsJ70 : List Cond := u_ws RJ7 TJ7 0
theorem nmJ7 : ∀ a, a < 0 → ∀ b, b < 0 → a ≠ b → (TJ7 a).2.1 ≠ (TJ7 b).2.1 := by decide +kernel
theorem tyJ7_ok : ∀ k, k < 0 → parseFieldDescriptor (TJ7 k).2.2.1 = some (tyJ7 k) := by decide +kernel
abbrev cJ7_fill_53178 : ByteArray := prog_16_method_103_code
def yJ7_fill_53178 : MethodName := ⟨RJ7, "fill", "([II)V"⟩
def RL : String := "FaultHeapsLaw"
abbrev cL_look : ByteArray := method_3_code
def yL_look : MethodName := ⟨RL, "look", "(LFaultHeaps;II[J)I"⟩
abbrev cL_law : ByteArray := code
def yL_law : MethodName := ⟨RL, "law", "([I)Z"⟩
def wsJ7_fill_53178 : List Cond := .code yJ7_fill_53178 cJ7_fill_53178 4 none :: ([])
def wsX0_init : List Cond := .code yX0_init cX0_init 1 none :: ([.methodLink RX0 3 objectInit, .instanceMethod objectInit, .code objectInit ⟨#[0xb1]⟩ 1 none, .classLink RX0 9 "[[I", .arrayClass .int, .fieldLink RX0 11 "FaultHeaps$Distances" "bare" "[[I", .fieldLink RX0 16 "FaultHeaps$Distances" "bareLengths" "[I", .arrayClass .boolean, .fieldLink RX0 20 "FaultHeaps$Distances" "isOther" "[Z", .fieldLink RX0 24 "FaultHeaps$Distances" "known" "[[I", .fieldLink RX0 27 "FaultHeaps$Distances" "least" "[[I", .methodLink RX0 30 yJ7_fill_53178, .static yJ7_fill_53178, .initialized RJ7, .code yJ7_fill_53178 cJ7_fill_53178 4 none] ++ wsX00)
def wsX0_between : List Cond := .code yX0_between cX0_between 3 (some .int) :: ([.fieldLink RX0 24 "FaultHeaps$Distances" "known" "[[I"] ++ wsX00)
def wsX3_howMany : List Cond := .code yX3_howMany cX3_howMany 1 (some .int) :: ([.fieldLink RX3 30 "FaultHeaps$Reports" "number" "I"] ++ wsX30)
def wsX3_lengthOf : List Cond := .code yX3_lengthOf cX3_lengthOf 2 (some .int) :: ([.fieldLink RX3 16 "FaultHeaps$Reports" "lengths" "[I"] ++ wsX30)
def wsX3_frameAt : List Cond := .code yX3_frameAt cX3_frameAt 3 (some .int) :: ([.fieldLink RX3 11 "FaultHeaps$Reports" "rows" "[[I"] ++ wsX30)
def wsJ13_bitCount_95d88 : List Cond := .code yJ13_bitCount_95d88 cJ13_bitCount_95d88 2 (some .int) :: ([.constantLong RJ13 314 (6148914691236517205), .constantLong RJ13 316 (3689348814741910323), .constantLong RJ13 318 (1085102592571150095)])
def wsX3_isCommon : List Cond := .code yX3_isCommon cX3_isCommon 2 (some .boolean) :: ([.fieldLink RX3 30 "FaultHeaps$Reports" "number" "I", .fieldLink RX3 26 "FaultHeaps$Reports" "holders" "[J", .methodLink RX3 48 yJ13_bitCount_95d88, .static yJ13_bitCount_95d88, .initialized RJ13, .code yJ13_bitCount_95d88 cJ13_bitCount_95d88 2 (some .int), .constantLong RJ13 314 (6148914691236517205), .constantLong RJ13 316 (3689348814741910323), .constantLong RJ13 318 (1085102592571150095)] ++ wsX30)
def wsX0_strip_r1 : List Cond := [Cond.fieldLink RX0 11 "FaultHeaps$Distances" "bare" "[[I", Cond.fieldLink RX0 16 "FaultHeaps$Distances" "bareLengths" "[I", Cond.methodLink RX0 50 yX3_lengthOf, Cond.instanceMethod yX3_lengthOf, Cond.selects RX3 yX3_lengthOf yX3_lengthOf, Cond.initialized RX3, Cond.code yX3_lengthOf cX3_lengthOf 2 (some .int), Cond.fieldLink RX3 16 "FaultHeaps$Reports" "lengths" "[I", Cond.methodLink RX0 54 yX3_frameAt, Cond.instanceMethod yX3_frameAt, Cond.selects RX3 yX3_frameAt yX3_frameAt, Cond.code yX3_frameAt cX3_frameAt 3 (some .int), Cond.fieldLink RX3 11 "FaultHeaps$Reports" "rows" "[[I", Cond.methodLink RX0 57 yX3_isCommon, Cond.instanceMethod yX3_isCommon, Cond.selects RX3 yX3_isCommon yX3_isCommon, Cond.code yX3_isCommon cX3_isCommon 2 (some .boolean), Cond.fieldLink RX3 30 "FaultHeaps$Reports" "number" "I", Cond.fieldLink RX3 26 "FaultHeaps$Reports" "holders" "[J", Cond.methodLink RX3 48 yJ13_bitCount_95d88, Cond.static yJ13_bitCount_95d88, Cond.initialized RJ13, Cond.code yJ13_bitCount_95d88 cJ13_bitCount_95d88 2 (some .int), Cond.constantLong RJ13 314 (6148914691236517205)]
def wsX0_strip_r2 : List Cond := [Cond.constantLong RJ13 316 (3689348814741910323), Cond.constantLong RJ13 318 (1085102592571150095)]
def wsX0_strip : List Cond := .code yX0_strip cX0_strip 8 (some .boolean) :: ((wsX0_strip_r1 ++ wsX0_strip_r2) ++ wsX00 ++ wsX30)
def wsX0_costOfOne : List Cond := .code yX0_costOfOne cX0_costOfOne 1 (some .int) :: ([])
def wsX0_costOfChange : List Cond := .code yX0_costOfChange cX0_costOfChange 2 (some .int) :: ([])
def wsX0_measure : List Cond := .code yX0_measure cX0_measure 12 (some .int) :: ([.fieldLink RX0 11 "FaultHeaps$Distances" "bare" "[[I", .fieldLink RX0 27 "FaultHeaps$Distances" "least" "[[I", .fieldLink RX0 16 "FaultHeaps$Distances" "bareLengths" "[I", .methodLink RX0 67 Lib.Math.min.name, .static Lib.Math.min.name, .initialized "java/lang/Math", .code Lib.Math.min.name Lib.Math.min.code 2 (some .int), .methodLink RX0 61 yX0_costOfOne, .static yX0_costOfOne, .initialized RX0, .code yX0_costOfOne cX0_costOfOne 1 (some .int), .methodLink RX0 64 yX0_costOfChange, .static yX0_costOfChange, .code yX0_costOfChange cX0_costOfChange 2 (some .int)] ++ wsX00)
def wsX0_renew_r1 : List Cond := [Cond.fieldLink RX0 20 "FaultHeaps$Distances" "isOther" "[Z", Cond.fieldLink RX0 24 "FaultHeaps$Distances" "known" "[[I", Cond.methodLink RX0 36 yX3_howMany, Cond.instanceMethod yX3_howMany, Cond.selects RX3 yX3_howMany yX3_howMany, Cond.initialized RX3, Cond.code yX3_howMany cX3_howMany 1 (some .int), Cond.fieldLink RX3 30 "FaultHeaps$Reports" "number" "I", Cond.methodLink RX0 42 yX0_strip, Cond.instanceMethod yX0_strip, Cond.selects RX0 yX0_strip yX0_strip, Cond.initialized RX0, Cond.code yX0_strip cX0_strip 8 (some .boolean), Cond.fieldLink RX0 11 "FaultHeaps$Distances" "bare" "[[I", Cond.fieldLink RX0 16 "FaultHeaps$Distances" "bareLengths" "[I", Cond.methodLink RX0 50 yX3_lengthOf, Cond.instanceMethod yX3_lengthOf, Cond.selects RX3 yX3_lengthOf yX3_lengthOf, Cond.code yX3_lengthOf cX3_lengthOf 2 (some .int), Cond.fieldLink RX3 16 "FaultHeaps$Reports" "lengths" "[I", Cond.methodLink RX0 54 yX3_frameAt, Cond.instanceMethod yX3_frameAt, Cond.selects RX3 yX3_frameAt yX3_frameAt, Cond.code yX3_frameAt cX3_frameAt 3 (some .int)]
def wsX0_renew_r2 : List Cond := [Cond.fieldLink RX3 11 "FaultHeaps$Reports" "rows" "[[I", Cond.methodLink RX0 57 yX3_isCommon, Cond.instanceMethod yX3_isCommon, Cond.selects RX3 yX3_isCommon yX3_isCommon, Cond.code yX3_isCommon cX3_isCommon 2 (some .boolean), Cond.fieldLink RX3 26 "FaultHeaps$Reports" "holders" "[J", Cond.methodLink RX3 48 yJ13_bitCount_95d88, Cond.static yJ13_bitCount_95d88, Cond.initialized RJ13, Cond.code yJ13_bitCount_95d88 cJ13_bitCount_95d88 2 (some .int), Cond.constantLong RJ13 314 (6148914691236517205), Cond.constantLong RJ13 316 (3689348814741910323), Cond.constantLong RJ13 318 (1085102592571150095), Cond.methodLink RX0 46 yX0_measure, Cond.instanceMethod yX0_measure, Cond.selects RX0 yX0_measure yX0_measure, Cond.code yX0_measure cX0_measure 12 (some .int), Cond.fieldLink RX0 27 "FaultHeaps$Distances" "least" "[[I", Cond.methodLink RX0 67 Lib.Math.min.name, Cond.static Lib.Math.min.name, Cond.initialized "java/lang/Math", Cond.code Lib.Math.min.name Lib.Math.min.code 2 (some .int), Cond.methodLink RX0 61 yX0_costOfOne, Cond.static yX0_costOfOne]
def wsX0_renew_r3 : List Cond := [Cond.code yX0_costOfOne cX0_costOfOne 1 (some .int), Cond.methodLink RX0 64 yX0_costOfChange, Cond.static yX0_costOfChange, Cond.code yX0_costOfChange cX0_costOfChange 2 (some .int)]
def wsX0_renew : List Cond := .code yX0_renew cX0_renew 6 none :: ((wsX0_renew_r1 ++ (wsX0_renew_r2 ++ wsX0_renew_r3)) ++ wsX00 ++ wsX30)
def wsX1_init : List Cond := .code yX1_init cX1_init 1 none :: ([.methodLink RX1 3 objectInit, .instanceMethod objectInit, .code objectInit ⟨#[0xb1]⟩ 1 none, .classLink RX1 9 "[[I", .arrayClass .int, .fieldLink RX1 11 "FaultHeaps$Heaps" "wishes" "[[I", .fieldLink RX1 16 "FaultHeaps$Heaps" "heapOf" "[I", .fieldLink RX1 20 "FaultHeaps$Heaps" "leastIn" "[I", .fieldLink RX1 23 "FaultHeaps$Heaps" "sizes" "[I", .fieldLink RX1 26 "FaultHeaps$Heaps" "newNumbers" "[I", .fieldLink RX1 29 "FaultHeaps$Heaps" "joining" "[[I", .fieldLink RX1 32 "FaultHeaps$Heaps" "melting" "[[I", .fieldLink RX1 35 "FaultHeaps$Heaps" "reportsNumber" "I", .fieldLink RX1 39 "FaultHeaps$Heaps" "heapsNumber" "I", .fieldLink RX1 42 "FaultHeaps$Heaps" "limit" "I", .fieldLink RX1 45 "FaultHeaps$Heaps" "changes" "I", .fieldLink RX1 48 "FaultHeaps$Heaps" "bestAdded" "I", .fieldLink RX1 51 "FaultHeaps$Heaps" "bestReport" "I", .fieldLink RX1 54 "FaultHeaps$Heaps" "bestMelted" "I", .fieldLink RX1 57 "FaultHeaps$Heaps" "bestInto" "I"] ++ wsX10)
def wsX1_howMany : List Cond := .code yX1_howMany cX1_howMany 1 (some .int) :: ([.fieldLink RX1 39 "FaultHeaps$Heaps" "heapsNumber" "I"] ++ wsX10)
def wsX1_getT : List Cond := .code yX1_getT cX1_getT 1 (some .int) :: ([.fieldLink RX1 42 "FaultHeaps$Heaps" "limit" "I"] ++ wsX10)
def wsX1_changesDone : List Cond := .code yX1_changesDone cX1_changesDone 1 (some .int) :: ([.fieldLink RX1 45 "FaultHeaps$Heaps" "changes" "I"] ++ wsX10)
def wsX1_setT : List Cond := .code yX1_setT cX1_setT 2 (some .boolean) :: ([.fieldLink RX1 42 "FaultHeaps$Heaps" "limit" "I"] ++ wsX10)
def wsX1_hasWish : List Cond := .code yX1_hasWish cX1_hasWish 3 (some .boolean) :: ([.fieldLink RX1 11 "FaultHeaps$Heaps" "wishes" "[[I"] ++ wsX10)
def wsX1_wish : List Cond := .code yX1_wish cX1_wish 4 none :: ([.fieldLink RX1 11 "FaultHeaps$Heaps" "wishes" "[[I"] ++ wsX10)
def wsX1_areTogether : List Cond := .code yX1_areTogether cX1_areTogether 3 (some .boolean) :: ([.fieldLink RX1 16 "FaultHeaps$Heaps" "heapOf" "[I"] ++ wsX10)
def wsX1_leastBeside : List Cond := .code yX1_leastBeside cX1_leastBeside 2 (some .int) :: ([.fieldLink RX1 20 "FaultHeaps$Heaps" "leastIn" "[I", .fieldLink RX1 16 "FaultHeaps$Heaps" "heapOf" "[I"] ++ wsX10)
def wsX1_sizeBeside : List Cond := .code yX1_sizeBeside cX1_sizeBeside 2 (some .int) :: ([.fieldLink RX1 23 "FaultHeaps$Heaps" "sizes" "[I", .fieldLink RX1 16 "FaultHeaps$Heaps" "heapOf" "[I"] ++ wsX10)
def wsX1_setBeside : List Cond := .code yX1_setBeside cX1_setBeside 5 (some .long) :: ([.fieldLink RX1 35 "FaultHeaps$Heaps" "reportsNumber" "I", .methodLink RX1 60 yX1_areTogether, .instanceMethod yX1_areTogether, .selects RX1 yX1_areTogether yX1_areTogether, .initialized RX1, .code yX1_areTogether cX1_areTogether 3 (some .boolean), .fieldLink RX1 16 "FaultHeaps$Heaps" "heapOf" "[I"] ++ wsX10)
def wsX1_costOfPair : List Cond := .code yX1_costOfPair cX1_costOfPair 6 (some .int) :: ([.fieldLink RX1 42 "FaultHeaps$Heaps" "limit" "I", .fieldLink RX1 11 "FaultHeaps$Heaps" "wishes" "[[I", .methodLink RX1 70 Lib.Math.max.name, .static Lib.Math.max.name, .initialized "java/lang/Math", .code Lib.Math.max.name Lib.Math.max.code 2 (some .int), .methodLink RX1 64 yX0_between, .instanceMethod yX0_between, .selects RX0 yX0_between yX0_between, .initialized RX0, .code yX0_between cX0_between 3 (some .int), .fieldLink RX0 24 "FaultHeaps$Distances" "known" "[[I", .methodLink RX1 60 yX1_areTogether, .instanceMethod yX1_areTogether, .selects RX1 yX1_areTogether yX1_areTogether, .initialized RX1, .code yX1_areTogether cX1_areTogether 3 (some .boolean), .fieldLink RX1 16 "FaultHeaps$Heaps" "heapOf" "[I"] ++ wsX10 ++ wsX00)
def wsX1_costOfAll : List Cond := .code yX1_costOfAll cX1_costOfAll 5 (some .int) :: ([.fieldLink RX1 35 "FaultHeaps$Heaps" "reportsNumber" "I", .methodLink RX1 75 yX1_costOfPair, .instanceMethod yX1_costOfPair, .selects RX1 yX1_costOfPair yX1_costOfPair, .initialized RX1, .code yX1_costOfPair cX1_costOfPair 6 (some .int), .fieldLink RX1 42 "FaultHeaps$Heaps" "limit" "I", .fieldLink RX1 11 "FaultHeaps$Heaps" "wishes" "[[I", .methodLink RX1 70 Lib.Math.max.name, .static Lib.Math.max.name, .initialized "java/lang/Math", .code Lib.Math.max.name Lib.Math.max.code 2 (some .int), .methodLink RX1 64 yX0_between, .instanceMethod yX0_between, .selects RX0 yX0_between yX0_between, .initialized RX0, .code yX0_between cX0_between 3 (some .int), .fieldLink RX0 24 "FaultHeaps$Distances" "known" "[[I", .methodLink RX1 60 yX1_areTogether, .instanceMethod yX1_areTogether, .selects RX1 yX1_areTogether yX1_areTogether, .code yX1_areTogether cX1_areTogether 3 (some .boolean), .fieldLink RX1 16 "FaultHeaps$Heaps" "heapOf" "[I"] ++ wsX10 ++ wsX00)
def wsX1_numberAnew : List Cond := .code yX1_numberAnew cX1_numberAnew 3 none :: ([.fieldLink RX1 26 "FaultHeaps$Heaps" "newNumbers" "[I", .fieldLink RX1 39 "FaultHeaps$Heaps" "heapsNumber" "I", .fieldLink RX1 35 "FaultHeaps$Heaps" "reportsNumber" "I", .fieldLink RX1 16 "FaultHeaps$Heaps" "heapOf" "[I", .fieldLink RX1 20 "FaultHeaps$Heaps" "leastIn" "[I", .fieldLink RX1 23 "FaultHeaps$Heaps" "sizes" "[I", .methodLink RX1 96 yJ7_fill_53178, .static yJ7_fill_53178, .initialized RJ7, .code yJ7_fill_53178 cJ7_fill_53178 4 none] ++ wsX10)
def wsX1_addAlone : List Cond := .code yX1_addAlone cX1_addAlone 1 none :: ([.fieldLink RX1 35 "FaultHeaps$Heaps" "reportsNumber" "I", .fieldLink RX1 16 "FaultHeaps$Heaps" "heapOf" "[I", .fieldLink RX1 39 "FaultHeaps$Heaps" "heapsNumber" "I", .methodLink RX1 79 yX1_numberAnew, .instanceMethod yX1_numberAnew, .selects RX1 yX1_numberAnew yX1_numberAnew, .initialized RX1, .code yX1_numberAnew cX1_numberAnew 3 none, .fieldLink RX1 26 "FaultHeaps$Heaps" "newNumbers" "[I", .fieldLink RX1 20 "FaultHeaps$Heaps" "leastIn" "[I", .fieldLink RX1 23 "FaultHeaps$Heaps" "sizes" "[I", .methodLink RX1 96 yJ7_fill_53178, .static yJ7_fill_53178, .initialized RJ7, .code yJ7_fill_53178 cJ7_fill_53178 4 none] ++ wsX10)
def wsX1_partAll : List Cond := .code yX1_partAll cX1_partAll 2 none :: ([.fieldLink RX1 35 "FaultHeaps$Heaps" "reportsNumber" "I", .fieldLink RX1 16 "FaultHeaps$Heaps" "heapOf" "[I", .methodLink RX1 79 yX1_numberAnew, .instanceMethod yX1_numberAnew, .selects RX1 yX1_numberAnew yX1_numberAnew, .initialized RX1, .code yX1_numberAnew cX1_numberAnew 3 none, .fieldLink RX1 26 "FaultHeaps$Heaps" "newNumbers" "[I", .fieldLink RX1 39 "FaultHeaps$Heaps" "heapsNumber" "I", .fieldLink RX1 20 "FaultHeaps$Heaps" "leastIn" "[I", .fieldLink RX1 23 "FaultHeaps$Heaps" "sizes" "[I", .methodLink RX1 96 yJ7_fill_53178, .static yJ7_fill_53178, .initialized RJ7, .code yJ7_fill_53178 cJ7_fill_53178 4 none] ++ wsX10)
def wsX1_weighJoining : List Cond := .code yX1_weighJoining cX1_weighJoining 4 none :: ([.fieldLink RX1 35 "FaultHeaps$Heaps" "reportsNumber" "I", .fieldLink RX1 29 "FaultHeaps$Heaps" "joining" "[[I", .fieldLink RX1 16 "FaultHeaps$Heaps" "heapOf" "[I", .fieldLink RX1 42 "FaultHeaps$Heaps" "limit" "I", .fieldLink RX1 11 "FaultHeaps$Heaps" "wishes" "[[I", .methodLink RX1 96 yJ7_fill_53178, .static yJ7_fill_53178, .initialized RJ7, .code yJ7_fill_53178 cJ7_fill_53178 4 none, .methodLink RX1 64 yX0_between, .instanceMethod yX0_between, .selects RX0 yX0_between yX0_between, .initialized RX0, .code yX0_between cX0_between 3 (some .int), .fieldLink RX0 24 "FaultHeaps$Distances" "known" "[[I"] ++ wsX10 ++ wsX00)
def wsX1_weighMelting : List Cond := .code yX1_weighMelting cX1_weighMelting 3 none :: ([.fieldLink RX1 39 "FaultHeaps$Heaps" "heapsNumber" "I", .fieldLink RX1 32 "FaultHeaps$Heaps" "melting" "[[I", .fieldLink RX1 35 "FaultHeaps$Heaps" "reportsNumber" "I", .fieldLink RX1 16 "FaultHeaps$Heaps" "heapOf" "[I", .fieldLink RX1 29 "FaultHeaps$Heaps" "joining" "[[I", .methodLink RX1 96 yJ7_fill_53178, .static yJ7_fill_53178, .initialized RJ7, .code yJ7_fill_53178 cJ7_fill_53178 4 none] ++ wsX10)
def wsX1_weighMove : List Cond := .code yX1_weighMove cX1_weighMove 4 none :: ([.fieldLink RX1 48 "FaultHeaps$Heaps" "bestAdded" "I", .fieldLink RX1 51 "FaultHeaps$Heaps" "bestReport" "I", .fieldLink RX1 57 "FaultHeaps$Heaps" "bestInto" "I"] ++ wsX10)
def wsX1_findBestMove : List Cond := .code yX1_findBestMove cX1_findBestMove 5 none :: ([.fieldLink RX1 16 "FaultHeaps$Heaps" "heapOf" "[I", .fieldLink RX1 29 "FaultHeaps$Heaps" "joining" "[[I", .fieldLink RX1 39 "FaultHeaps$Heaps" "heapsNumber" "I", .fieldLink RX1 23 "FaultHeaps$Heaps" "sizes" "[I", .methodLink RX1 106 yX1_weighMove, .instanceMethod yX1_weighMove, .selects RX1 yX1_weighMove yX1_weighMove, .initialized RX1, .code yX1_weighMove cX1_weighMove 4 none, .fieldLink RX1 48 "FaultHeaps$Heaps" "bestAdded" "I", .fieldLink RX1 51 "FaultHeaps$Heaps" "bestReport" "I", .fieldLink RX1 57 "FaultHeaps$Heaps" "bestInto" "I"] ++ wsX10)
def wsX1_findBest : List Cond := .code yX1_findBest cX1_findBest 3 none :: ([.fieldLink RX1 48 "FaultHeaps$Heaps" "bestAdded" "I", .fieldLink RX1 35 "FaultHeaps$Heaps" "reportsNumber" "I", .fieldLink RX1 39 "FaultHeaps$Heaps" "heapsNumber" "I", .fieldLink RX1 32 "FaultHeaps$Heaps" "melting" "[[I", .fieldLink RX1 51 "FaultHeaps$Heaps" "bestReport" "I", .fieldLink RX1 54 "FaultHeaps$Heaps" "bestMelted" "I", .fieldLink RX1 57 "FaultHeaps$Heaps" "bestInto" "I", .methodLink RX1 102 yX1_findBestMove, .instanceMethod yX1_findBestMove, .selects RX1 yX1_findBestMove yX1_findBestMove, .initialized RX1, .code yX1_findBestMove cX1_findBestMove 5 none, .fieldLink RX1 16 "FaultHeaps$Heaps" "heapOf" "[I", .fieldLink RX1 29 "FaultHeaps$Heaps" "joining" "[[I", .fieldLink RX1 23 "FaultHeaps$Heaps" "sizes" "[I", .methodLink RX1 106 yX1_weighMove, .instanceMethod yX1_weighMove, .selects RX1 yX1_weighMove yX1_weighMove, .code yX1_weighMove cX1_weighMove 4 none] ++ wsX10)
def wsX1_doBest : List Cond := .code yX1_doBest cX1_doBest 2 none :: ([.fieldLink RX1 51 "FaultHeaps$Heaps" "bestReport" "I", .fieldLink RX1 16 "FaultHeaps$Heaps" "heapOf" "[I", .fieldLink RX1 57 "FaultHeaps$Heaps" "bestInto" "I", .fieldLink RX1 35 "FaultHeaps$Heaps" "reportsNumber" "I", .fieldLink RX1 54 "FaultHeaps$Heaps" "bestMelted" "I", .methodLink RX1 79 yX1_numberAnew, .instanceMethod yX1_numberAnew, .selects RX1 yX1_numberAnew yX1_numberAnew, .initialized RX1, .code yX1_numberAnew cX1_numberAnew 3 none, .fieldLink RX1 26 "FaultHeaps$Heaps" "newNumbers" "[I", .fieldLink RX1 39 "FaultHeaps$Heaps" "heapsNumber" "I", .fieldLink RX1 20 "FaultHeaps$Heaps" "leastIn" "[I", .fieldLink RX1 23 "FaultHeaps$Heaps" "sizes" "[I", .methodLink RX1 96 yJ7_fill_53178, .static yJ7_fill_53178, .initialized RJ7, .code yJ7_fill_53178 cJ7_fill_53178 4 none] ++ wsX10)
def wsX1_settle_r1 : List Cond := [Cond.constant RX1 82 (1000000), Cond.fieldLink RX1 48 "FaultHeaps$Heaps" "bestAdded" "I", Cond.fieldLink RX1 45 "FaultHeaps$Heaps" "changes" "I", Cond.methodLink RX1 83 yX1_weighJoining, Cond.instanceMethod yX1_weighJoining, Cond.selects RX1 yX1_weighJoining yX1_weighJoining, Cond.initialized RX1, Cond.code yX1_weighJoining cX1_weighJoining 4 none, Cond.fieldLink RX1 35 "FaultHeaps$Heaps" "reportsNumber" "I", Cond.fieldLink RX1 29 "FaultHeaps$Heaps" "joining" "[[I", Cond.fieldLink RX1 16 "FaultHeaps$Heaps" "heapOf" "[I", Cond.fieldLink RX1 42 "FaultHeaps$Heaps" "limit" "I", Cond.fieldLink RX1 11 "FaultHeaps$Heaps" "wishes" "[[I", Cond.methodLink RX1 96 yJ7_fill_53178, Cond.static yJ7_fill_53178, Cond.initialized RJ7, Cond.code yJ7_fill_53178 cJ7_fill_53178 4 none, Cond.methodLink RX1 64 yX0_between, Cond.instanceMethod yX0_between, Cond.selects RX0 yX0_between yX0_between, Cond.initialized RX0, Cond.code yX0_between cX0_between 3 (some .int), Cond.fieldLink RX0 24 "FaultHeaps$Distances" "known" "[[I", Cond.methodLink RX1 87 yX1_weighMelting]
def wsX1_settle_r2 : List Cond := [Cond.instanceMethod yX1_weighMelting, Cond.selects RX1 yX1_weighMelting yX1_weighMelting, Cond.code yX1_weighMelting cX1_weighMelting 3 none, Cond.fieldLink RX1 39 "FaultHeaps$Heaps" "heapsNumber" "I", Cond.fieldLink RX1 32 "FaultHeaps$Heaps" "melting" "[[I", Cond.methodLink RX1 90 yX1_findBest, Cond.instanceMethod yX1_findBest, Cond.selects RX1 yX1_findBest yX1_findBest, Cond.code yX1_findBest cX1_findBest 3 none, Cond.fieldLink RX1 51 "FaultHeaps$Heaps" "bestReport" "I", Cond.fieldLink RX1 54 "FaultHeaps$Heaps" "bestMelted" "I", Cond.fieldLink RX1 57 "FaultHeaps$Heaps" "bestInto" "I", Cond.methodLink RX1 102 yX1_findBestMove, Cond.instanceMethod yX1_findBestMove, Cond.selects RX1 yX1_findBestMove yX1_findBestMove, Cond.code yX1_findBestMove cX1_findBestMove 5 none, Cond.fieldLink RX1 23 "FaultHeaps$Heaps" "sizes" "[I", Cond.methodLink RX1 106 yX1_weighMove, Cond.instanceMethod yX1_weighMove, Cond.selects RX1 yX1_weighMove yX1_weighMove, Cond.code yX1_weighMove cX1_weighMove 4 none, Cond.methodLink RX1 93 yX1_doBest, Cond.instanceMethod yX1_doBest, Cond.selects RX1 yX1_doBest yX1_doBest]
def wsX1_settle_r3 : List Cond := [Cond.code yX1_doBest cX1_doBest 2 none, Cond.methodLink RX1 79 yX1_numberAnew, Cond.instanceMethod yX1_numberAnew, Cond.selects RX1 yX1_numberAnew yX1_numberAnew, Cond.code yX1_numberAnew cX1_numberAnew 3 none, Cond.fieldLink RX1 26 "FaultHeaps$Heaps" "newNumbers" "[I", Cond.fieldLink RX1 20 "FaultHeaps$Heaps" "leastIn" "[I"]
def wsX1_settle : List Cond := .code yX1_settle cX1_settle 3 none :: ((wsX1_settle_r1 ++ (wsX1_settle_r2 ++ wsX1_settle_r3)) ++ wsX10 ++ wsX00)
def wsX2_init : List Cond := .code yX2_init cX2_init 1 none :: ([.methodLink RX2 3 objectInit, .instanceMethod objectInit, .code objectInit ⟨#[0xb1]⟩ 1 none, .arrayClass .int, .fieldLink RX2 9 "FaultHeaps$Marks" "shared" "[I", .arrayClass .long, .fieldLink RX2 15 "FaultHeaps$Marks" "holders" "[J", .fieldLink RX2 19 "FaultHeaps$Marks" "sharedNumber" "I", .fieldLink RX2 23 "FaultHeaps$Marks" "latest" "[I", .fieldLink RX2 26 "FaultHeaps$Marks" "latestLength" "I"] ++ wsX20)
def wsX2_latestAt : List Cond := .code yX2_latestAt cX2_latestAt 2 (some .int) :: ([.fieldLink RX2 26 "FaultHeaps$Marks" "latestLength" "I", .fieldLink RX2 23 "FaultHeaps$Marks" "latest" "[I"] ++ wsX20)
def wsX3_holdersOf : List Cond := .code yX3_holdersOf cX3_holdersOf 2 (some .long) :: ([.fieldLink RX3 26 "FaultHeaps$Reports" "holders" "[J"] ++ wsX30)
def wsX2_gatherShared : List Cond := .code yX2_gatherShared cX2_gatherShared 7 none :: ([.fieldLink RX2 19 "FaultHeaps$Marks" "sharedNumber" "I", .fieldLink RX2 9 "FaultHeaps$Marks" "shared" "[I", .fieldLink RX2 15 "FaultHeaps$Marks" "holders" "[J", .methodLink RX2 49 yX3_holdersOf, .instanceMethod yX3_holdersOf, .selects RX3 yX3_holdersOf yX3_holdersOf, .initialized RX3, .code yX3_holdersOf cX3_holdersOf 2 (some .long), .fieldLink RX3 26 "FaultHeaps$Reports" "holders" "[J"] ++ wsX20 ++ wsX30)
def wsX2_findOne : List Cond := .code yX2_findOne cX2_findOne 4 (some .boolean) :: ([.fieldLink RX2 19 "FaultHeaps$Marks" "sharedNumber" "I", .fieldLink RX2 15 "FaultHeaps$Marks" "holders" "[J", .fieldLink RX2 23 "FaultHeaps$Marks" "latest" "[I", .fieldLink RX2 9 "FaultHeaps$Marks" "shared" "[I", .fieldLink RX2 26 "FaultHeaps$Marks" "latestLength" "I"] ++ wsX20)
def wsX2_findTwo : List Cond := .code yX2_findTwo cX2_findTwo 5 (some .boolean) :: ([.fieldLink RX2 19 "FaultHeaps$Marks" "sharedNumber" "I", .fieldLink RX2 15 "FaultHeaps$Marks" "holders" "[J", .fieldLink RX2 23 "FaultHeaps$Marks" "latest" "[I", .fieldLink RX2 9 "FaultHeaps$Marks" "shared" "[I", .fieldLink RX2 26 "FaultHeaps$Marks" "latestLength" "I"] ++ wsX20)
def wsX2_findThree : List Cond := .code yX2_findThree cX2_findThree 6 (some .boolean) :: ([.fieldLink RX2 19 "FaultHeaps$Marks" "sharedNumber" "I", .fieldLink RX2 15 "FaultHeaps$Marks" "holders" "[J", .fieldLink RX2 23 "FaultHeaps$Marks" "latest" "[I", .fieldLink RX2 9 "FaultHeaps$Marks" "shared" "[I", .fieldLink RX2 26 "FaultHeaps$Marks" "latestLength" "I"] ++ wsX20)
def wsX2_tell_r1 : List Cond := [Cond.fieldLink RX2 26 "FaultHeaps$Marks" "latestLength" "I", Cond.methodLink RX2 29 yX3_howMany, Cond.instanceMethod yX3_howMany, Cond.selects RX3 yX3_howMany yX3_howMany, Cond.initialized RX3, Cond.code yX3_howMany cX3_howMany 1 (some .int), Cond.fieldLink RX3 30 "FaultHeaps$Reports" "number" "I", Cond.methodLink RX2 35 yX2_gatherShared, Cond.instanceMethod yX2_gatherShared, Cond.selects RX2 yX2_gatherShared yX2_gatherShared, Cond.initialized RX2, Cond.code yX2_gatherShared cX2_gatherShared 7 none, Cond.fieldLink RX2 19 "FaultHeaps$Marks" "sharedNumber" "I", Cond.fieldLink RX2 9 "FaultHeaps$Marks" "shared" "[I", Cond.fieldLink RX2 15 "FaultHeaps$Marks" "holders" "[J", Cond.methodLink RX2 49 yX3_holdersOf, Cond.instanceMethod yX3_holdersOf, Cond.selects RX3 yX3_holdersOf yX3_holdersOf, Cond.code yX3_holdersOf cX3_holdersOf 2 (some .long), Cond.fieldLink RX3 26 "FaultHeaps$Reports" "holders" "[J", Cond.methodLink RX2 39 yX2_findOne, Cond.instanceMethod yX2_findOne, Cond.selects RX2 yX2_findOne yX2_findOne, Cond.code yX2_findOne cX2_findOne 4 (some .boolean)]
def wsX2_tell_r2 : List Cond := [Cond.fieldLink RX2 23 "FaultHeaps$Marks" "latest" "[I", Cond.methodLink RX2 43 yX2_findTwo, Cond.instanceMethod yX2_findTwo, Cond.selects RX2 yX2_findTwo yX2_findTwo, Cond.code yX2_findTwo cX2_findTwo 5 (some .boolean), Cond.methodLink RX2 46 yX2_findThree, Cond.instanceMethod yX2_findThree, Cond.selects RX2 yX2_findThree yX2_findThree, Cond.code yX2_findThree cX2_findThree 6 (some .boolean)]
def wsX2_tell : List Cond := .code yX2_tell cX2_tell 6 (some .int) :: ((wsX2_tell_r1 ++ wsX2_tell_r2) ++ wsX20 ++ wsX30)
def wsX3_init : List Cond := .code yX3_init cX3_init 1 none :: ([.methodLink RX3 3 objectInit, .instanceMethod objectInit, .code objectInit ⟨#[0xb1]⟩ 1 none, .classLink RX3 9 "[[I", .arrayClass .int, .fieldLink RX3 11 "FaultHeaps$Reports" "rows" "[[I", .fieldLink RX3 16 "FaultHeaps$Reports" "lengths" "[I", .fieldLink RX3 20 "FaultHeaps$Reports" "madeIn" "[I", .fieldLink RX3 23 "FaultHeaps$Reports" "fixedIn" "[I", .arrayClass .long, .fieldLink RX3 26 "FaultHeaps$Reports" "holders" "[J", .fieldLink RX3 30 "FaultHeaps$Reports" "number" "I"] ++ wsX30)
def wsX3_has : List Cond := .code yX3_has cX3_has 2 (some .boolean) :: ([.fieldLink RX3 30 "FaultHeaps$Reports" "number" "I"] ++ wsX30)
def wsX3_hasTwo : List Cond := .code yX3_hasTwo cX3_hasTwo 3 (some .boolean) :: ([.methodLink RX3 34 yX3_has, .instanceMethod yX3_has, .selects RX3 yX3_has yX3_has, .initialized RX3, .code yX3_has cX3_has 2 (some .boolean), .fieldLink RX3 30 "FaultHeaps$Reports" "number" "I"] ++ wsX30)
def wsX3_hasFrame : List Cond := .code yX3_hasFrame cX3_hasFrame 3 (some .boolean) :: ([.fieldLink RX3 16 "FaultHeaps$Reports" "lengths" "[I", .methodLink RX3 34 yX3_has, .instanceMethod yX3_has, .selects RX3 yX3_has yX3_has, .initialized RX3, .code yX3_has cX3_has 2 (some .boolean), .fieldLink RX3 30 "FaultHeaps$Reports" "number" "I"] ++ wsX30)
def wsX3_isFull : List Cond := .code yX3_isFull cX3_isFull 1 (some .boolean) :: ([.fieldLink RX3 30 "FaultHeaps$Reports" "number" "I"] ++ wsX30)
def wsX4_howMany : List Cond := .code yX4_howMany cX4_howMany 1 (some .int) :: ([.fieldLink RX4 15 "FaultHeaps$ToldRow" "length" "I"] ++ wsX40)
def wsX4_at : List Cond := .code yX4_at cX4_at 2 (some .int) :: ([.fieldLink RX4 9 "FaultHeaps$ToldRow" "frames" "[I"] ++ wsX40)
def wsX3_add : List Cond := .code yX3_add cX3_add 6 (some .int) :: ([.fieldLink RX3 30 "FaultHeaps$Reports" "number" "I", .fieldLink RX3 16 "FaultHeaps$Reports" "lengths" "[I", .fieldLink RX3 11 "FaultHeaps$Reports" "rows" "[[I", .fieldLink RX3 26 "FaultHeaps$Reports" "holders" "[J", .fieldLink RX3 20 "FaultHeaps$Reports" "madeIn" "[I", .fieldLink RX3 23 "FaultHeaps$Reports" "fixedIn" "[I", .methodLink RX3 38 yX4_howMany, .instanceMethod yX4_howMany, .selects RX4 yX4_howMany yX4_howMany, .initialized RX4, .code yX4_howMany cX4_howMany 1 (some .int), .fieldLink RX4 15 "FaultHeaps$ToldRow" "length" "I", .methodLink RX3 44 yX4_at, .instanceMethod yX4_at, .selects RX4 yX4_at yX4_at, .code yX4_at cX4_at 2 (some .int), .fieldLink RX4 9 "FaultHeaps$ToldRow" "frames" "[I"] ++ wsX30 ++ wsX40)
def wsX3_versionOf : List Cond := .code yX3_versionOf cX3_versionOf 2 (some .int) :: ([.fieldLink RX3 20 "FaultHeaps$Reports" "madeIn" "[I"] ++ wsX30)
def wsX3_fixedAt : List Cond := .code yX3_fixedAt cX3_fixedAt 2 (some .int) :: ([.fieldLink RX3 23 "FaultHeaps$Reports" "fixedIn" "[I"] ++ wsX30)
def wsX3_setFixedAt : List Cond := .code yX3_setFixedAt cX3_setFixedAt 3 none :: ([.fieldLink RX3 23 "FaultHeaps$Reports" "fixedIn" "[I"] ++ wsX30)
def wsX3_howManyCommon : List Cond := .code yX3_howManyCommon cX3_howManyCommon 3 (some .int) :: ([.methodLink RX3 54 yX3_isCommon, .instanceMethod yX3_isCommon, .selects RX3 yX3_isCommon yX3_isCommon, .initialized RX3, .code yX3_isCommon cX3_isCommon 2 (some .boolean), .fieldLink RX3 30 "FaultHeaps$Reports" "number" "I", .fieldLink RX3 26 "FaultHeaps$Reports" "holders" "[J", .methodLink RX3 48 yJ13_bitCount_95d88, .static yJ13_bitCount_95d88, .initialized RJ13, .code yJ13_bitCount_95d88 cJ13_bitCount_95d88 2 (some .int), .constantLong RJ13 314 (6148914691236517205), .constantLong RJ13 316 (3689348814741910323), .constantLong RJ13 318 (1085102592571150095)] ++ wsX30)
def wsX4_init : List Cond := .code yX4_init cX4_init 1 none :: ([.methodLink RX4 3 objectInit, .instanceMethod objectInit, .code objectInit ⟨#[0xb1]⟩ 1 none, .arrayClass .int, .fieldLink RX4 9 "FaultHeaps$ToldRow" "frames" "[I", .fieldLink RX4 15 "FaultHeaps$ToldRow" "length" "I"] ++ wsX40)
def wsX4_put : List Cond := .code yX4_put cX4_put 2 (some .int) :: ([.fieldLink RX4 15 "FaultHeaps$ToldRow" "length" "I", .fieldLink RX4 9 "FaultHeaps$ToldRow" "frames" "[I"] ++ wsX40)
def wsX4_isEmpty : List Cond := .code yX4_isEmpty cX4_isEmpty 1 (some .boolean) :: ([.fieldLink RX4 15 "FaultHeaps$ToldRow" "length" "I"] ++ wsX40)
def wsX4_clear : List Cond := .code yX4_clear cX4_clear 1 none :: ([.fieldLink RX4 15 "FaultHeaps$ToldRow" "length" "I"] ++ wsX40)
def wsX4_standsTwice : List Cond := .code yX4_standsTwice cX4_standsTwice 4 (some .boolean) :: ([.fieldLink RX4 9 "FaultHeaps$ToldRow" "frames" "[I"] ++ wsX40)
def wsX4_cut : List Cond := .code yX4_cut cX4_cut 4 none :: ([.fieldLink RX4 15 "FaultHeaps$ToldRow" "length" "I", .fieldLink RX4 9 "FaultHeaps$ToldRow" "frames" "[I"] ++ wsX40)
def wsX4_foldOnce : List Cond := .code yX4_foldOnce cX4_foldOnce 3 (some .boolean) :: ([.fieldLink RX4 15 "FaultHeaps$ToldRow" "length" "I", .methodLink RX4 23 yX4_standsTwice, .instanceMethod yX4_standsTwice, .selects RX4 yX4_standsTwice yX4_standsTwice, .initialized RX4, .code yX4_standsTwice cX4_standsTwice 4 (some .boolean), .fieldLink RX4 9 "FaultHeaps$ToldRow" "frames" "[I", .methodLink RX4 27 yX4_cut, .instanceMethod yX4_cut, .selects RX4 yX4_cut yX4_cut, .code yX4_cut cX4_cut 4 none] ++ wsX40)
def wsX4_fold : List Cond := .code yX4_fold cX4_fold 2 none :: ([.methodLink RX4 19 yX4_foldOnce, .instanceMethod yX4_foldOnce, .selects RX4 yX4_foldOnce yX4_foldOnce, .initialized RX4, .code yX4_foldOnce cX4_foldOnce 3 (some .boolean), .fieldLink RX4 15 "FaultHeaps$ToldRow" "length" "I", .methodLink RX4 23 yX4_standsTwice, .instanceMethod yX4_standsTwice, .selects RX4 yX4_standsTwice yX4_standsTwice, .code yX4_standsTwice cX4_standsTwice 4 (some .boolean), .fieldLink RX4 9 "FaultHeaps$ToldRow" "frames" "[I", .methodLink RX4 27 yX4_cut, .instanceMethod yX4_cut, .selects RX4 yX4_cut yX4_cut, .code yX4_cut cX4_cut 4 none] ++ wsX40)
def wsX5_init : List Cond := .code yX5_init cX5_init 1 none :: ([.methodLink RX5 3 objectInit, .instanceMethod objectInit, .code objectInit ⟨#[0xb1]⟩ 1 none, .arrayClass .int, .fieldLink RX5 9 "FaultHeaps$Versions" "lines" "[I", .fieldLink RX5 15 "FaultHeaps$Versions" "number" "I"] ++ wsX50)
def wsX5_has : List Cond := .code yX5_has cX5_has 2 (some .boolean) :: ([.fieldLink RX5 15 "FaultHeaps$Versions" "number" "I"] ++ wsX50)
def wsX5_howMany : List Cond := .code yX5_howMany cX5_howMany 1 (some .int) :: ([.fieldLink RX5 15 "FaultHeaps$Versions" "number" "I"] ++ wsX50)
def wsX5_make : List Cond := .code yX5_make cX5_make 3 (some .int) :: ([.fieldLink RX5 15 "FaultHeaps$Versions" "number" "I", .fieldLink RX5 9 "FaultHeaps$Versions" "lines" "[I", .methodLink RX5 19 yX5_has, .instanceMethod yX5_has, .selects RX5 yX5_has yX5_has, .initialized RX5, .code yX5_has cX5_has 2 (some .boolean)] ++ wsX50)
def wsX5_isOrIsBehind : List Cond := .code yX5_isOrIsBehind cX5_isOrIsBehind 3 (some .boolean) :: ([.fieldLink RX5 9 "FaultHeaps$Versions" "lines" "[I"] ++ wsX50)
def wsX6_init_r1 : List Cond := [Cond.methodLink RX6 1 objectInit, Cond.instanceMethod objectInit, Cond.code objectInit ⟨#[0xb1]⟩ 1 none, Cond.classLink RX6 7 RX4, Cond.instantiable RX4 2, Cond.initialized RX4, Cond.fieldLink RX6 10 "FaultHeaps" "told" "LFaultHeaps$ToldRow;", Cond.classLink RX6 16 RX5, Cond.instantiable RX5 2, Cond.initialized RX5, Cond.fieldLink RX6 19 "FaultHeaps" "versions" "LFaultHeaps$Versions;", Cond.classLink RX6 23 RX3, Cond.instantiable RX3 6, Cond.initialized RX3, Cond.fieldLink RX6 26 "FaultHeaps" "reports" "LFaultHeaps$Reports;", Cond.classLink RX6 30 RX0, Cond.instantiable RX0 5, Cond.initialized RX0, Cond.fieldLink RX6 33 "FaultHeaps" "distances" "LFaultHeaps$Distances;", Cond.classLink RX6 37 RX1, Cond.instantiable RX1 15, Cond.initialized RX1, Cond.fieldLink RX6 40 "FaultHeaps" "heaps" "LFaultHeaps$Heaps;", Cond.classLink RX6 44 RX2]
def wsX6_init_r2 : List Cond := [Cond.instantiable RX2 5, Cond.initialized RX2, Cond.fieldLink RX6 47 "FaultHeaps" "marks" "LFaultHeaps$Marks;", Cond.instanceMethod yX4_init, Cond.code yX4_init cX4_init 1 none, Cond.methodLink RX4 3 objectInit, Cond.arrayClass .int, Cond.fieldLink RX4 9 "FaultHeaps$ToldRow" "frames" "[I", Cond.fieldLink RX4 15 "FaultHeaps$ToldRow" "length" "I", Cond.methodLink RX6 18 yX5_init, Cond.instanceMethod yX5_init, Cond.code yX5_init cX5_init 1 none, Cond.methodLink RX5 3 objectInit, Cond.fieldLink RX5 9 "FaultHeaps$Versions" "lines" "[I", Cond.fieldLink RX5 15 "FaultHeaps$Versions" "number" "I", Cond.instanceMethod yX3_init, Cond.code yX3_init cX3_init 1 none, Cond.methodLink RX3 3 objectInit, Cond.classLink RX3 9 "[[I", Cond.fieldLink RX3 11 "FaultHeaps$Reports" "rows" "[[I", Cond.fieldLink RX3 16 "FaultHeaps$Reports" "lengths" "[I", Cond.fieldLink RX3 20 "FaultHeaps$Reports" "madeIn" "[I", Cond.fieldLink RX3 23 "FaultHeaps$Reports" "fixedIn" "[I", Cond.arrayClass .long]
def wsX6_init_r3 : List Cond := [Cond.fieldLink RX3 26 "FaultHeaps$Reports" "holders" "[J", Cond.fieldLink RX3 30 "FaultHeaps$Reports" "number" "I", Cond.methodLink RX6 32 yX0_init, Cond.instanceMethod yX0_init, Cond.code yX0_init cX0_init 1 none, Cond.methodLink RX0 3 objectInit, Cond.classLink RX0 9 "[[I", Cond.fieldLink RX0 11 "FaultHeaps$Distances" "bare" "[[I", Cond.fieldLink RX0 16 "FaultHeaps$Distances" "bareLengths" "[I", Cond.arrayClass .boolean, Cond.fieldLink RX0 20 "FaultHeaps$Distances" "isOther" "[Z", Cond.fieldLink RX0 24 "FaultHeaps$Distances" "known" "[[I", Cond.fieldLink RX0 27 "FaultHeaps$Distances" "least" "[[I", Cond.methodLink RX0 30 yJ7_fill_53178, Cond.static yJ7_fill_53178, Cond.initialized RJ7, Cond.code yJ7_fill_53178 cJ7_fill_53178 4 none, Cond.instanceMethod yX1_init, Cond.code yX1_init cX1_init 1 none, Cond.methodLink RX1 3 objectInit, Cond.classLink RX1 9 "[[I", Cond.fieldLink RX1 11 "FaultHeaps$Heaps" "wishes" "[[I", Cond.fieldLink RX1 16 "FaultHeaps$Heaps" "heapOf" "[I", Cond.fieldLink RX1 20 "FaultHeaps$Heaps" "leastIn" "[I"]
def wsX6_init_r4 : List Cond := [Cond.fieldLink RX1 23 "FaultHeaps$Heaps" "sizes" "[I", Cond.fieldLink RX1 26 "FaultHeaps$Heaps" "newNumbers" "[I", Cond.fieldLink RX1 29 "FaultHeaps$Heaps" "joining" "[[I", Cond.fieldLink RX1 32 "FaultHeaps$Heaps" "melting" "[[I", Cond.fieldLink RX1 35 "FaultHeaps$Heaps" "reportsNumber" "I", Cond.fieldLink RX1 39 "FaultHeaps$Heaps" "heapsNumber" "I", Cond.fieldLink RX1 42 "FaultHeaps$Heaps" "limit" "I", Cond.fieldLink RX1 45 "FaultHeaps$Heaps" "changes" "I", Cond.fieldLink RX1 48 "FaultHeaps$Heaps" "bestAdded" "I", Cond.fieldLink RX1 51 "FaultHeaps$Heaps" "bestReport" "I", Cond.fieldLink RX1 54 "FaultHeaps$Heaps" "bestMelted" "I", Cond.fieldLink RX1 57 "FaultHeaps$Heaps" "bestInto" "I", Cond.instanceMethod yX2_init, Cond.code yX2_init cX2_init 1 none, Cond.methodLink RX2 3 objectInit, Cond.fieldLink RX2 9 "FaultHeaps$Marks" "shared" "[I", Cond.fieldLink RX2 15 "FaultHeaps$Marks" "holders" "[J", Cond.fieldLink RX2 19 "FaultHeaps$Marks" "sharedNumber" "I", Cond.fieldLink RX2 23 "FaultHeaps$Marks" "latest" "[I", Cond.fieldLink RX2 26 "FaultHeaps$Marks" "latestLength" "I"]
def wsX6_init : List Cond := .code yX6_init cX6_init 1 none :: ((wsX6_init_r1 ++ (wsX6_init_r2 ++ (wsX6_init_r3 ++ wsX6_init_r4))) ++ wsX40 ++ wsX60 ++ wsX50 ++ wsX30 ++ wsX00 ++ wsX10 ++ wsX20)
def wsX6_frame : List Cond := .code yX6_frame cX6_frame 2 (some .int) :: ([.fieldLink RX6 10 "FaultHeaps" "told" "LFaultHeaps$ToldRow;", .methodLink RX6 51 yX4_put, .instanceMethod yX4_put, .selects RX4 yX4_put yX4_put, .initialized RX4, .code yX4_put cX4_put 2 (some .int), .fieldLink RX4 15 "FaultHeaps$ToldRow" "length" "I", .fieldLink RX4 9 "FaultHeaps$ToldRow" "frames" "[I"] ++ wsX60 ++ wsX40)
def wsX6_version : List Cond := .code yX6_version cX6_version 2 (some .int) :: ([.fieldLink RX6 19 "FaultHeaps" "versions" "LFaultHeaps$Versions;", .methodLink RX6 55 yX5_make, .instanceMethod yX5_make, .selects RX5 yX5_make yX5_make, .initialized RX5, .code yX5_make cX5_make 3 (some .int), .fieldLink RX5 15 "FaultHeaps$Versions" "number" "I", .fieldLink RX5 9 "FaultHeaps$Versions" "lines" "[I", .methodLink RX5 19 yX5_has, .instanceMethod yX5_has, .selects RX5 yX5_has yX5_has, .code yX5_has cX5_has 2 (some .boolean)] ++ wsX60 ++ wsX50)
def wsX6_report_r1 : List Cond := [Cond.fieldLink RX6 10 "FaultHeaps" "told" "LFaultHeaps$ToldRow;", Cond.fieldLink RX6 19 "FaultHeaps" "versions" "LFaultHeaps$Versions;", Cond.fieldLink RX6 26 "FaultHeaps" "reports" "LFaultHeaps$Reports;", Cond.fieldLink RX6 33 "FaultHeaps" "distances" "LFaultHeaps$Distances;", Cond.fieldLink RX6 40 "FaultHeaps" "heaps" "LFaultHeaps$Heaps;", Cond.methodLink RX6 58 yX4_isEmpty, Cond.instanceMethod yX4_isEmpty, Cond.selects RX4 yX4_isEmpty yX4_isEmpty, Cond.initialized RX4, Cond.code yX4_isEmpty cX4_isEmpty 1 (some .boolean), Cond.fieldLink RX4 15 "FaultHeaps$ToldRow" "length" "I", Cond.methodLink RX6 62 yX5_has, Cond.instanceMethod yX5_has, Cond.selects RX5 yX5_has yX5_has, Cond.initialized RX5, Cond.code yX5_has cX5_has 2 (some .boolean), Cond.fieldLink RX5 15 "FaultHeaps$Versions" "number" "I", Cond.methodLink RX6 66 yX3_isFull, Cond.instanceMethod yX3_isFull, Cond.selects RX3 yX3_isFull yX3_isFull, Cond.initialized RX3, Cond.code yX3_isFull cX3_isFull 1 (some .boolean), Cond.fieldLink RX3 30 "FaultHeaps$Reports" "number" "I", Cond.methodLink RX6 69 yX4_fold]
def wsX6_report_r2 : List Cond := [Cond.instanceMethod yX4_fold, Cond.selects RX4 yX4_fold yX4_fold, Cond.code yX4_fold cX4_fold 2 none, Cond.methodLink RX4 19 yX4_foldOnce, Cond.instanceMethod yX4_foldOnce, Cond.selects RX4 yX4_foldOnce yX4_foldOnce, Cond.code yX4_foldOnce cX4_foldOnce 3 (some .boolean), Cond.methodLink RX4 23 yX4_standsTwice, Cond.instanceMethod yX4_standsTwice, Cond.selects RX4 yX4_standsTwice yX4_standsTwice, Cond.code yX4_standsTwice cX4_standsTwice 4 (some .boolean), Cond.fieldLink RX4 9 "FaultHeaps$ToldRow" "frames" "[I", Cond.methodLink RX4 27 yX4_cut, Cond.instanceMethod yX4_cut, Cond.selects RX4 yX4_cut yX4_cut, Cond.code yX4_cut cX4_cut 4 none, Cond.methodLink RX6 72 yX3_add, Cond.instanceMethod yX3_add, Cond.selects RX3 yX3_add yX3_add, Cond.code yX3_add cX3_add 6 (some .int), Cond.fieldLink RX3 16 "FaultHeaps$Reports" "lengths" "[I", Cond.fieldLink RX3 11 "FaultHeaps$Reports" "rows" "[[I", Cond.fieldLink RX3 26 "FaultHeaps$Reports" "holders" "[J", Cond.fieldLink RX3 20 "FaultHeaps$Reports" "madeIn" "[I"]
def wsX6_report_r3 : List Cond := [Cond.fieldLink RX3 23 "FaultHeaps$Reports" "fixedIn" "[I", Cond.methodLink RX3 38 yX4_howMany, Cond.instanceMethod yX4_howMany, Cond.selects RX4 yX4_howMany yX4_howMany, Cond.code yX4_howMany cX4_howMany 1 (some .int), Cond.methodLink RX3 44 yX4_at, Cond.instanceMethod yX4_at, Cond.selects RX4 yX4_at yX4_at, Cond.code yX4_at cX4_at 2 (some .int), Cond.methodLink RX6 76 yX4_clear, Cond.instanceMethod yX4_clear, Cond.selects RX4 yX4_clear yX4_clear, Cond.code yX4_clear cX4_clear 1 none, Cond.methodLink RX6 79 yX0_renew, Cond.instanceMethod yX0_renew, Cond.selects RX0 yX0_renew yX0_renew, Cond.initialized RX0, Cond.code yX0_renew cX0_renew 6 none, Cond.fieldLink RX0 20 "FaultHeaps$Distances" "isOther" "[Z", Cond.fieldLink RX0 24 "FaultHeaps$Distances" "known" "[[I", Cond.methodLink RX0 36 yX3_howMany, Cond.instanceMethod yX3_howMany, Cond.selects RX3 yX3_howMany yX3_howMany, Cond.code yX3_howMany cX3_howMany 1 (some .int)]
def wsX6_report_r4 : List Cond := [Cond.methodLink RX0 42 yX0_strip, Cond.instanceMethod yX0_strip, Cond.selects RX0 yX0_strip yX0_strip, Cond.code yX0_strip cX0_strip 8 (some .boolean), Cond.fieldLink RX0 11 "FaultHeaps$Distances" "bare" "[[I", Cond.fieldLink RX0 16 "FaultHeaps$Distances" "bareLengths" "[I", Cond.methodLink RX0 50 yX3_lengthOf, Cond.instanceMethod yX3_lengthOf, Cond.selects RX3 yX3_lengthOf yX3_lengthOf, Cond.code yX3_lengthOf cX3_lengthOf 2 (some .int), Cond.methodLink RX0 54 yX3_frameAt, Cond.instanceMethod yX3_frameAt, Cond.selects RX3 yX3_frameAt yX3_frameAt, Cond.code yX3_frameAt cX3_frameAt 3 (some .int), Cond.methodLink RX0 57 yX3_isCommon, Cond.instanceMethod yX3_isCommon, Cond.selects RX3 yX3_isCommon yX3_isCommon, Cond.code yX3_isCommon cX3_isCommon 2 (some .boolean), Cond.methodLink RX3 48 yJ13_bitCount_95d88, Cond.static yJ13_bitCount_95d88, Cond.initialized RJ13, Cond.code yJ13_bitCount_95d88 cJ13_bitCount_95d88 2 (some .int), Cond.constantLong RJ13 314 (6148914691236517205), Cond.constantLong RJ13 316 (3689348814741910323)]
def wsX6_report_r5 : List Cond := [Cond.constantLong RJ13 318 (1085102592571150095), Cond.methodLink RX0 46 yX0_measure, Cond.instanceMethod yX0_measure, Cond.selects RX0 yX0_measure yX0_measure, Cond.code yX0_measure cX0_measure 12 (some .int), Cond.fieldLink RX0 27 "FaultHeaps$Distances" "least" "[[I", Cond.methodLink RX0 67 Lib.Math.min.name, Cond.static Lib.Math.min.name, Cond.initialized "java/lang/Math", Cond.code Lib.Math.min.name Lib.Math.min.code 2 (some .int), Cond.methodLink RX0 61 yX0_costOfOne, Cond.static yX0_costOfOne, Cond.code yX0_costOfOne cX0_costOfOne 1 (some .int), Cond.methodLink RX0 64 yX0_costOfChange, Cond.static yX0_costOfChange, Cond.code yX0_costOfChange cX0_costOfChange 2 (some .int), Cond.methodLink RX6 83 yX1_addAlone, Cond.instanceMethod yX1_addAlone, Cond.selects RX1 yX1_addAlone yX1_addAlone, Cond.initialized RX1, Cond.code yX1_addAlone cX1_addAlone 1 none, Cond.fieldLink RX1 35 "FaultHeaps$Heaps" "reportsNumber" "I", Cond.fieldLink RX1 16 "FaultHeaps$Heaps" "heapOf" "[I", Cond.fieldLink RX1 39 "FaultHeaps$Heaps" "heapsNumber" "I"]
def wsX6_report_r6 : List Cond := [Cond.methodLink RX1 79 yX1_numberAnew, Cond.instanceMethod yX1_numberAnew, Cond.selects RX1 yX1_numberAnew yX1_numberAnew, Cond.code yX1_numberAnew cX1_numberAnew 3 none, Cond.fieldLink RX1 26 "FaultHeaps$Heaps" "newNumbers" "[I", Cond.fieldLink RX1 20 "FaultHeaps$Heaps" "leastIn" "[I", Cond.fieldLink RX1 23 "FaultHeaps$Heaps" "sizes" "[I", Cond.methodLink RX1 96 yJ7_fill_53178, Cond.static yJ7_fill_53178, Cond.initialized RJ7, Cond.code yJ7_fill_53178 cJ7_fill_53178 4 none, Cond.methodLink RX6 86 yX1_settle, Cond.instanceMethod yX1_settle, Cond.selects RX1 yX1_settle yX1_settle, Cond.code yX1_settle cX1_settle 3 none, Cond.constant RX1 82 (1000000), Cond.fieldLink RX1 48 "FaultHeaps$Heaps" "bestAdded" "I", Cond.fieldLink RX1 45 "FaultHeaps$Heaps" "changes" "I", Cond.methodLink RX1 83 yX1_weighJoining, Cond.instanceMethod yX1_weighJoining, Cond.selects RX1 yX1_weighJoining yX1_weighJoining, Cond.code yX1_weighJoining cX1_weighJoining 4 none, Cond.fieldLink RX1 29 "FaultHeaps$Heaps" "joining" "[[I", Cond.fieldLink RX1 42 "FaultHeaps$Heaps" "limit" "I"]
def wsX6_report_r7 : List Cond := [Cond.fieldLink RX1 11 "FaultHeaps$Heaps" "wishes" "[[I", Cond.methodLink RX1 64 yX0_between, Cond.instanceMethod yX0_between, Cond.selects RX0 yX0_between yX0_between, Cond.code yX0_between cX0_between 3 (some .int), Cond.methodLink RX1 87 yX1_weighMelting, Cond.instanceMethod yX1_weighMelting, Cond.selects RX1 yX1_weighMelting yX1_weighMelting, Cond.code yX1_weighMelting cX1_weighMelting 3 none, Cond.fieldLink RX1 32 "FaultHeaps$Heaps" "melting" "[[I", Cond.methodLink RX1 90 yX1_findBest, Cond.instanceMethod yX1_findBest, Cond.selects RX1 yX1_findBest yX1_findBest, Cond.code yX1_findBest cX1_findBest 3 none, Cond.fieldLink RX1 51 "FaultHeaps$Heaps" "bestReport" "I", Cond.fieldLink RX1 54 "FaultHeaps$Heaps" "bestMelted" "I", Cond.fieldLink RX1 57 "FaultHeaps$Heaps" "bestInto" "I", Cond.methodLink RX1 102 yX1_findBestMove, Cond.instanceMethod yX1_findBestMove, Cond.selects RX1 yX1_findBestMove yX1_findBestMove, Cond.code yX1_findBestMove cX1_findBestMove 5 none, Cond.methodLink RX1 106 yX1_weighMove, Cond.instanceMethod yX1_weighMove, Cond.selects RX1 yX1_weighMove yX1_weighMove]
def wsX6_report_r8 : List Cond := [Cond.code yX1_weighMove cX1_weighMove 4 none, Cond.methodLink RX1 93 yX1_doBest, Cond.instanceMethod yX1_doBest, Cond.selects RX1 yX1_doBest yX1_doBest, Cond.code yX1_doBest cX1_doBest 2 none]
def wsX6_report : List Cond := .code yX6_report cX6_report 3 (some .int) :: ((wsX6_report_r1 ++ (wsX6_report_r2 ++ (wsX6_report_r3 ++ (wsX6_report_r4 ++ (wsX6_report_r5 ++ (wsX6_report_r6 ++ (wsX6_report_r7 ++ wsX6_report_r8))))))) ++ wsX60 ++ wsX40 ++ wsX50 ++ wsX30 ++ wsX00 ++ wsX10)
def wsX6_pair_r1 : List Cond := [Cond.fieldLink RX6 26 "FaultHeaps" "reports" "LFaultHeaps$Reports;", Cond.fieldLink RX6 40 "FaultHeaps" "heaps" "LFaultHeaps$Heaps;", Cond.fieldLink RX6 33 "FaultHeaps" "distances" "LFaultHeaps$Distances;", Cond.methodLink RX6 90 yX3_hasTwo, Cond.instanceMethod yX3_hasTwo, Cond.selects RX3 yX3_hasTwo yX3_hasTwo, Cond.initialized RX3, Cond.code yX3_hasTwo cX3_hasTwo 3 (some .boolean), Cond.methodLink RX3 34 yX3_has, Cond.instanceMethod yX3_has, Cond.selects RX3 yX3_has yX3_has, Cond.code yX3_has cX3_has 2 (some .boolean), Cond.fieldLink RX3 30 "FaultHeaps$Reports" "number" "I", Cond.methodLink RX6 94 yX1_wish, Cond.instanceMethod yX1_wish, Cond.selects RX1 yX1_wish yX1_wish, Cond.initialized RX1, Cond.code yX1_wish cX1_wish 4 none, Cond.fieldLink RX1 11 "FaultHeaps$Heaps" "wishes" "[[I", Cond.methodLink RX6 86 yX1_settle, Cond.instanceMethod yX1_settle, Cond.selects RX1 yX1_settle yX1_settle, Cond.code yX1_settle cX1_settle 3 none, Cond.constant RX1 82 (1000000)]
def wsX6_pair_r2 : List Cond := [Cond.fieldLink RX1 48 "FaultHeaps$Heaps" "bestAdded" "I", Cond.fieldLink RX1 45 "FaultHeaps$Heaps" "changes" "I", Cond.methodLink RX1 83 yX1_weighJoining, Cond.instanceMethod yX1_weighJoining, Cond.selects RX1 yX1_weighJoining yX1_weighJoining, Cond.code yX1_weighJoining cX1_weighJoining 4 none, Cond.fieldLink RX1 35 "FaultHeaps$Heaps" "reportsNumber" "I", Cond.fieldLink RX1 29 "FaultHeaps$Heaps" "joining" "[[I", Cond.fieldLink RX1 16 "FaultHeaps$Heaps" "heapOf" "[I", Cond.fieldLink RX1 42 "FaultHeaps$Heaps" "limit" "I", Cond.methodLink RX1 96 yJ7_fill_53178, Cond.static yJ7_fill_53178, Cond.initialized RJ7, Cond.code yJ7_fill_53178 cJ7_fill_53178 4 none, Cond.methodLink RX1 64 yX0_between, Cond.instanceMethod yX0_between, Cond.selects RX0 yX0_between yX0_between, Cond.initialized RX0, Cond.code yX0_between cX0_between 3 (some .int), Cond.fieldLink RX0 24 "FaultHeaps$Distances" "known" "[[I", Cond.methodLink RX1 87 yX1_weighMelting, Cond.instanceMethod yX1_weighMelting, Cond.selects RX1 yX1_weighMelting yX1_weighMelting, Cond.code yX1_weighMelting cX1_weighMelting 3 none]
def wsX6_pair_r3 : List Cond := [Cond.fieldLink RX1 39 "FaultHeaps$Heaps" "heapsNumber" "I", Cond.fieldLink RX1 32 "FaultHeaps$Heaps" "melting" "[[I", Cond.methodLink RX1 90 yX1_findBest, Cond.instanceMethod yX1_findBest, Cond.selects RX1 yX1_findBest yX1_findBest, Cond.code yX1_findBest cX1_findBest 3 none, Cond.fieldLink RX1 51 "FaultHeaps$Heaps" "bestReport" "I", Cond.fieldLink RX1 54 "FaultHeaps$Heaps" "bestMelted" "I", Cond.fieldLink RX1 57 "FaultHeaps$Heaps" "bestInto" "I", Cond.methodLink RX1 102 yX1_findBestMove, Cond.instanceMethod yX1_findBestMove, Cond.selects RX1 yX1_findBestMove yX1_findBestMove, Cond.code yX1_findBestMove cX1_findBestMove 5 none, Cond.fieldLink RX1 23 "FaultHeaps$Heaps" "sizes" "[I", Cond.methodLink RX1 106 yX1_weighMove, Cond.instanceMethod yX1_weighMove, Cond.selects RX1 yX1_weighMove yX1_weighMove, Cond.code yX1_weighMove cX1_weighMove 4 none, Cond.methodLink RX1 93 yX1_doBest, Cond.instanceMethod yX1_doBest, Cond.selects RX1 yX1_doBest yX1_doBest, Cond.code yX1_doBest cX1_doBest 2 none, Cond.methodLink RX1 79 yX1_numberAnew, Cond.instanceMethod yX1_numberAnew]
def wsX6_pair_r4 : List Cond := [Cond.selects RX1 yX1_numberAnew yX1_numberAnew, Cond.code yX1_numberAnew cX1_numberAnew 3 none, Cond.fieldLink RX1 26 "FaultHeaps$Heaps" "newNumbers" "[I", Cond.fieldLink RX1 20 "FaultHeaps$Heaps" "leastIn" "[I"]
def wsX6_pair : List Cond := .code yX6_pair cX6_pair 4 (some .boolean) :: ((wsX6_pair_r1 ++ (wsX6_pair_r2 ++ (wsX6_pair_r3 ++ wsX6_pair_r4))) ++ wsX60 ++ wsX30 ++ wsX10 ++ wsX00)
def wsX6_free_r1 : List Cond := [Cond.fieldLink RX6 26 "FaultHeaps" "reports" "LFaultHeaps$Reports;", Cond.fieldLink RX6 40 "FaultHeaps" "heaps" "LFaultHeaps$Heaps;", Cond.fieldLink RX6 33 "FaultHeaps" "distances" "LFaultHeaps$Distances;", Cond.methodLink RX6 90 yX3_hasTwo, Cond.instanceMethod yX3_hasTwo, Cond.selects RX3 yX3_hasTwo yX3_hasTwo, Cond.initialized RX3, Cond.code yX3_hasTwo cX3_hasTwo 3 (some .boolean), Cond.methodLink RX3 34 yX3_has, Cond.instanceMethod yX3_has, Cond.selects RX3 yX3_has yX3_has, Cond.code yX3_has cX3_has 2 (some .boolean), Cond.fieldLink RX3 30 "FaultHeaps$Reports" "number" "I", Cond.methodLink RX6 98 yX1_hasWish, Cond.instanceMethod yX1_hasWish, Cond.selects RX1 yX1_hasWish yX1_hasWish, Cond.initialized RX1, Cond.code yX1_hasWish cX1_hasWish 3 (some .boolean), Cond.fieldLink RX1 11 "FaultHeaps$Heaps" "wishes" "[[I", Cond.methodLink RX6 94 yX1_wish, Cond.instanceMethod yX1_wish, Cond.selects RX1 yX1_wish yX1_wish, Cond.code yX1_wish cX1_wish 4 none, Cond.methodLink RX6 86 yX1_settle]
def wsX6_free_r2 : List Cond := [Cond.instanceMethod yX1_settle, Cond.selects RX1 yX1_settle yX1_settle, Cond.code yX1_settle cX1_settle 3 none, Cond.constant RX1 82 (1000000), Cond.fieldLink RX1 48 "FaultHeaps$Heaps" "bestAdded" "I", Cond.fieldLink RX1 45 "FaultHeaps$Heaps" "changes" "I", Cond.methodLink RX1 83 yX1_weighJoining, Cond.instanceMethod yX1_weighJoining, Cond.selects RX1 yX1_weighJoining yX1_weighJoining, Cond.code yX1_weighJoining cX1_weighJoining 4 none, Cond.fieldLink RX1 35 "FaultHeaps$Heaps" "reportsNumber" "I", Cond.fieldLink RX1 29 "FaultHeaps$Heaps" "joining" "[[I", Cond.fieldLink RX1 16 "FaultHeaps$Heaps" "heapOf" "[I", Cond.fieldLink RX1 42 "FaultHeaps$Heaps" "limit" "I", Cond.methodLink RX1 96 yJ7_fill_53178, Cond.static yJ7_fill_53178, Cond.initialized RJ7, Cond.code yJ7_fill_53178 cJ7_fill_53178 4 none, Cond.methodLink RX1 64 yX0_between, Cond.instanceMethod yX0_between, Cond.selects RX0 yX0_between yX0_between, Cond.initialized RX0, Cond.code yX0_between cX0_between 3 (some .int), Cond.fieldLink RX0 24 "FaultHeaps$Distances" "known" "[[I"]
def wsX6_free_r3 : List Cond := [Cond.methodLink RX1 87 yX1_weighMelting, Cond.instanceMethod yX1_weighMelting, Cond.selects RX1 yX1_weighMelting yX1_weighMelting, Cond.code yX1_weighMelting cX1_weighMelting 3 none, Cond.fieldLink RX1 39 "FaultHeaps$Heaps" "heapsNumber" "I", Cond.fieldLink RX1 32 "FaultHeaps$Heaps" "melting" "[[I", Cond.methodLink RX1 90 yX1_findBest, Cond.instanceMethod yX1_findBest, Cond.selects RX1 yX1_findBest yX1_findBest, Cond.code yX1_findBest cX1_findBest 3 none, Cond.fieldLink RX1 51 "FaultHeaps$Heaps" "bestReport" "I", Cond.fieldLink RX1 54 "FaultHeaps$Heaps" "bestMelted" "I", Cond.fieldLink RX1 57 "FaultHeaps$Heaps" "bestInto" "I", Cond.methodLink RX1 102 yX1_findBestMove, Cond.instanceMethod yX1_findBestMove, Cond.selects RX1 yX1_findBestMove yX1_findBestMove, Cond.code yX1_findBestMove cX1_findBestMove 5 none, Cond.fieldLink RX1 23 "FaultHeaps$Heaps" "sizes" "[I", Cond.methodLink RX1 106 yX1_weighMove, Cond.instanceMethod yX1_weighMove, Cond.selects RX1 yX1_weighMove yX1_weighMove, Cond.code yX1_weighMove cX1_weighMove 4 none, Cond.methodLink RX1 93 yX1_doBest, Cond.instanceMethod yX1_doBest]
def wsX6_free_r4 : List Cond := [Cond.selects RX1 yX1_doBest yX1_doBest, Cond.code yX1_doBest cX1_doBest 2 none, Cond.methodLink RX1 79 yX1_numberAnew, Cond.instanceMethod yX1_numberAnew, Cond.selects RX1 yX1_numberAnew yX1_numberAnew, Cond.code yX1_numberAnew cX1_numberAnew 3 none, Cond.fieldLink RX1 26 "FaultHeaps$Heaps" "newNumbers" "[I", Cond.fieldLink RX1 20 "FaultHeaps$Heaps" "leastIn" "[I"]
def wsX6_free : List Cond := .code yX6_free cX6_free 3 (some .boolean) :: ((wsX6_free_r1 ++ (wsX6_free_r2 ++ (wsX6_free_r3 ++ wsX6_free_r4))) ++ wsX60 ++ wsX30 ++ wsX10 ++ wsX00)
def wsX6_mark_r1 : List Cond := [Cond.fieldLink RX6 40 "FaultHeaps" "heaps" "LFaultHeaps$Heaps;", Cond.fieldLink RX6 33 "FaultHeaps" "distances" "LFaultHeaps$Distances;", Cond.methodLink RX6 101 yX1_setT, Cond.instanceMethod yX1_setT, Cond.selects RX1 yX1_setT yX1_setT, Cond.initialized RX1, Cond.code yX1_setT cX1_setT 2 (some .boolean), Cond.fieldLink RX1 42 "FaultHeaps$Heaps" "limit" "I", Cond.methodLink RX6 86 yX1_settle, Cond.instanceMethod yX1_settle, Cond.selects RX1 yX1_settle yX1_settle, Cond.code yX1_settle cX1_settle 3 none, Cond.constant RX1 82 (1000000), Cond.fieldLink RX1 48 "FaultHeaps$Heaps" "bestAdded" "I", Cond.fieldLink RX1 45 "FaultHeaps$Heaps" "changes" "I", Cond.methodLink RX1 83 yX1_weighJoining, Cond.instanceMethod yX1_weighJoining, Cond.selects RX1 yX1_weighJoining yX1_weighJoining, Cond.code yX1_weighJoining cX1_weighJoining 4 none, Cond.fieldLink RX1 35 "FaultHeaps$Heaps" "reportsNumber" "I", Cond.fieldLink RX1 29 "FaultHeaps$Heaps" "joining" "[[I", Cond.fieldLink RX1 16 "FaultHeaps$Heaps" "heapOf" "[I", Cond.fieldLink RX1 11 "FaultHeaps$Heaps" "wishes" "[[I", Cond.methodLink RX1 96 yJ7_fill_53178]
def wsX6_mark_r2 : List Cond := [Cond.static yJ7_fill_53178, Cond.initialized RJ7, Cond.code yJ7_fill_53178 cJ7_fill_53178 4 none, Cond.methodLink RX1 64 yX0_between, Cond.instanceMethod yX0_between, Cond.selects RX0 yX0_between yX0_between, Cond.initialized RX0, Cond.code yX0_between cX0_between 3 (some .int), Cond.fieldLink RX0 24 "FaultHeaps$Distances" "known" "[[I", Cond.methodLink RX1 87 yX1_weighMelting, Cond.instanceMethod yX1_weighMelting, Cond.selects RX1 yX1_weighMelting yX1_weighMelting, Cond.code yX1_weighMelting cX1_weighMelting 3 none, Cond.fieldLink RX1 39 "FaultHeaps$Heaps" "heapsNumber" "I", Cond.fieldLink RX1 32 "FaultHeaps$Heaps" "melting" "[[I", Cond.methodLink RX1 90 yX1_findBest, Cond.instanceMethod yX1_findBest, Cond.selects RX1 yX1_findBest yX1_findBest, Cond.code yX1_findBest cX1_findBest 3 none, Cond.fieldLink RX1 51 "FaultHeaps$Heaps" "bestReport" "I", Cond.fieldLink RX1 54 "FaultHeaps$Heaps" "bestMelted" "I", Cond.fieldLink RX1 57 "FaultHeaps$Heaps" "bestInto" "I", Cond.methodLink RX1 102 yX1_findBestMove, Cond.instanceMethod yX1_findBestMove]
def wsX6_mark_r3 : List Cond := [Cond.selects RX1 yX1_findBestMove yX1_findBestMove, Cond.code yX1_findBestMove cX1_findBestMove 5 none, Cond.fieldLink RX1 23 "FaultHeaps$Heaps" "sizes" "[I", Cond.methodLink RX1 106 yX1_weighMove, Cond.instanceMethod yX1_weighMove, Cond.selects RX1 yX1_weighMove yX1_weighMove, Cond.code yX1_weighMove cX1_weighMove 4 none, Cond.methodLink RX1 93 yX1_doBest, Cond.instanceMethod yX1_doBest, Cond.selects RX1 yX1_doBest yX1_doBest, Cond.code yX1_doBest cX1_doBest 2 none, Cond.methodLink RX1 79 yX1_numberAnew, Cond.instanceMethod yX1_numberAnew, Cond.selects RX1 yX1_numberAnew yX1_numberAnew, Cond.code yX1_numberAnew cX1_numberAnew 3 none, Cond.fieldLink RX1 26 "FaultHeaps$Heaps" "newNumbers" "[I", Cond.fieldLink RX1 20 "FaultHeaps$Heaps" "leastIn" "[I"]
def wsX6_mark : List Cond := .code yX6_mark cX6_mark 2 (some .boolean) :: ((wsX6_mark_r1 ++ (wsX6_mark_r2 ++ wsX6_mark_r3)) ++ wsX60 ++ wsX10 ++ wsX00)
def wsX6_resettle_r1 : List Cond := [Cond.fieldLink RX6 40 "FaultHeaps" "heaps" "LFaultHeaps$Heaps;", Cond.fieldLink RX6 33 "FaultHeaps" "distances" "LFaultHeaps$Distances;", Cond.methodLink RX6 104 yX1_partAll, Cond.instanceMethod yX1_partAll, Cond.selects RX1 yX1_partAll yX1_partAll, Cond.initialized RX1, Cond.code yX1_partAll cX1_partAll 2 none, Cond.fieldLink RX1 35 "FaultHeaps$Heaps" "reportsNumber" "I", Cond.fieldLink RX1 16 "FaultHeaps$Heaps" "heapOf" "[I", Cond.methodLink RX1 79 yX1_numberAnew, Cond.instanceMethod yX1_numberAnew, Cond.selects RX1 yX1_numberAnew yX1_numberAnew, Cond.code yX1_numberAnew cX1_numberAnew 3 none, Cond.fieldLink RX1 26 "FaultHeaps$Heaps" "newNumbers" "[I", Cond.fieldLink RX1 39 "FaultHeaps$Heaps" "heapsNumber" "I", Cond.fieldLink RX1 20 "FaultHeaps$Heaps" "leastIn" "[I", Cond.fieldLink RX1 23 "FaultHeaps$Heaps" "sizes" "[I", Cond.methodLink RX1 96 yJ7_fill_53178, Cond.static yJ7_fill_53178, Cond.initialized RJ7, Cond.code yJ7_fill_53178 cJ7_fill_53178 4 none, Cond.methodLink RX6 86 yX1_settle, Cond.instanceMethod yX1_settle, Cond.selects RX1 yX1_settle yX1_settle]
def wsX6_resettle_r2 : List Cond := [Cond.code yX1_settle cX1_settle 3 none, Cond.constant RX1 82 (1000000), Cond.fieldLink RX1 48 "FaultHeaps$Heaps" "bestAdded" "I", Cond.fieldLink RX1 45 "FaultHeaps$Heaps" "changes" "I", Cond.methodLink RX1 83 yX1_weighJoining, Cond.instanceMethod yX1_weighJoining, Cond.selects RX1 yX1_weighJoining yX1_weighJoining, Cond.code yX1_weighJoining cX1_weighJoining 4 none, Cond.fieldLink RX1 29 "FaultHeaps$Heaps" "joining" "[[I", Cond.fieldLink RX1 42 "FaultHeaps$Heaps" "limit" "I", Cond.fieldLink RX1 11 "FaultHeaps$Heaps" "wishes" "[[I", Cond.methodLink RX1 64 yX0_between, Cond.instanceMethod yX0_between, Cond.selects RX0 yX0_between yX0_between, Cond.initialized RX0, Cond.code yX0_between cX0_between 3 (some .int), Cond.fieldLink RX0 24 "FaultHeaps$Distances" "known" "[[I", Cond.methodLink RX1 87 yX1_weighMelting, Cond.instanceMethod yX1_weighMelting, Cond.selects RX1 yX1_weighMelting yX1_weighMelting, Cond.code yX1_weighMelting cX1_weighMelting 3 none, Cond.fieldLink RX1 32 "FaultHeaps$Heaps" "melting" "[[I", Cond.methodLink RX1 90 yX1_findBest, Cond.instanceMethod yX1_findBest]
def wsX6_resettle_r3 : List Cond := [Cond.selects RX1 yX1_findBest yX1_findBest, Cond.code yX1_findBest cX1_findBest 3 none, Cond.fieldLink RX1 51 "FaultHeaps$Heaps" "bestReport" "I", Cond.fieldLink RX1 54 "FaultHeaps$Heaps" "bestMelted" "I", Cond.fieldLink RX1 57 "FaultHeaps$Heaps" "bestInto" "I", Cond.methodLink RX1 102 yX1_findBestMove, Cond.instanceMethod yX1_findBestMove, Cond.selects RX1 yX1_findBestMove yX1_findBestMove, Cond.code yX1_findBestMove cX1_findBestMove 5 none, Cond.methodLink RX1 106 yX1_weighMove, Cond.instanceMethod yX1_weighMove, Cond.selects RX1 yX1_weighMove yX1_weighMove, Cond.code yX1_weighMove cX1_weighMove 4 none, Cond.methodLink RX1 93 yX1_doBest, Cond.instanceMethod yX1_doBest, Cond.selects RX1 yX1_doBest yX1_doBest, Cond.code yX1_doBest cX1_doBest 2 none, Cond.methodLink RX6 107 yX1_howMany, Cond.instanceMethod yX1_howMany, Cond.selects RX1 yX1_howMany yX1_howMany, Cond.code yX1_howMany cX1_howMany 1 (some .int)]
def wsX6_resettle : List Cond := .code yX6_resettle cX6_resettle 1 (some .int) :: ((wsX6_resettle_r1 ++ (wsX6_resettle_r2 ++ wsX6_resettle_r3)) ++ wsX60 ++ wsX10 ++ wsX00)
def wsX6_distance : List Cond := .code yX6_distance cX6_distance 3 (some .int) :: ([.fieldLink RX6 26 "FaultHeaps" "reports" "LFaultHeaps$Reports;", .fieldLink RX6 33 "FaultHeaps" "distances" "LFaultHeaps$Distances;", .methodLink RX6 111 yX3_has, .instanceMethod yX3_has, .selects RX3 yX3_has yX3_has, .initialized RX3, .code yX3_has cX3_has 2 (some .boolean), .fieldLink RX3 30 "FaultHeaps$Reports" "number" "I", .methodLink RX6 112 yX0_between, .instanceMethod yX0_between, .selects RX0 yX0_between yX0_between, .initialized RX0, .code yX0_between cX0_between 3 (some .int), .fieldLink RX0 24 "FaultHeaps$Distances" "known" "[[I"] ++ wsX60 ++ wsX30 ++ wsX00)
def wsX6_heap : List Cond := .code yX6_heap cX6_heap 2 (some .int) :: ([.fieldLink RX6 26 "FaultHeaps" "reports" "LFaultHeaps$Reports;", .fieldLink RX6 40 "FaultHeaps" "heaps" "LFaultHeaps$Heaps;", .methodLink RX6 111 yX3_has, .instanceMethod yX3_has, .selects RX3 yX3_has yX3_has, .initialized RX3, .code yX3_has cX3_has 2 (some .boolean), .fieldLink RX3 30 "FaultHeaps$Reports" "number" "I", .methodLink RX6 116 yX1_leastBeside, .instanceMethod yX1_leastBeside, .selects RX1 yX1_leastBeside yX1_leastBeside, .initialized RX1, .code yX1_leastBeside cX1_leastBeside 2 (some .int), .fieldLink RX1 20 "FaultHeaps$Heaps" "leastIn" "[I", .fieldLink RX1 16 "FaultHeaps$Heaps" "heapOf" "[I"] ++ wsX60 ++ wsX30 ++ wsX10)
def wsX6_cost_r1 : List Cond := [Cond.fieldLink RX6 40 "FaultHeaps" "heaps" "LFaultHeaps$Heaps;", Cond.fieldLink RX6 33 "FaultHeaps" "distances" "LFaultHeaps$Distances;", Cond.fieldLink RX6 26 "FaultHeaps" "reports" "LFaultHeaps$Reports;", Cond.methodLink RX6 119 yX1_costOfAll, Cond.instanceMethod yX1_costOfAll, Cond.selects RX1 yX1_costOfAll yX1_costOfAll, Cond.initialized RX1, Cond.code yX1_costOfAll cX1_costOfAll 5 (some .int), Cond.fieldLink RX1 35 "FaultHeaps$Heaps" "reportsNumber" "I", Cond.methodLink RX1 75 yX1_costOfPair, Cond.instanceMethod yX1_costOfPair, Cond.selects RX1 yX1_costOfPair yX1_costOfPair, Cond.code yX1_costOfPair cX1_costOfPair 6 (some .int), Cond.fieldLink RX1 42 "FaultHeaps$Heaps" "limit" "I", Cond.fieldLink RX1 11 "FaultHeaps$Heaps" "wishes" "[[I", Cond.methodLink RX1 70 Lib.Math.max.name, Cond.static Lib.Math.max.name, Cond.initialized "java/lang/Math", Cond.code Lib.Math.max.name Lib.Math.max.code 2 (some .int), Cond.methodLink RX1 64 yX0_between, Cond.instanceMethod yX0_between, Cond.selects RX0 yX0_between yX0_between, Cond.initialized RX0, Cond.code yX0_between cX0_between 3 (some .int)]
def wsX6_cost_r2 : List Cond := [Cond.fieldLink RX0 24 "FaultHeaps$Distances" "known" "[[I", Cond.methodLink RX1 60 yX1_areTogether, Cond.instanceMethod yX1_areTogether, Cond.selects RX1 yX1_areTogether yX1_areTogether, Cond.code yX1_areTogether cX1_areTogether 3 (some .boolean), Cond.fieldLink RX1 16 "FaultHeaps$Heaps" "heapOf" "[I", Cond.methodLink RX6 90 yX3_hasTwo, Cond.instanceMethod yX3_hasTwo, Cond.selects RX3 yX3_hasTwo yX3_hasTwo, Cond.initialized RX3, Cond.code yX3_hasTwo cX3_hasTwo 3 (some .boolean), Cond.methodLink RX3 34 yX3_has, Cond.instanceMethod yX3_has, Cond.selects RX3 yX3_has yX3_has, Cond.code yX3_has cX3_has 2 (some .boolean), Cond.fieldLink RX3 30 "FaultHeaps$Reports" "number" "I", Cond.methodLink RX6 123 yX1_costOfPair]
def wsX6_cost : List Cond := .code yX6_cost cX6_cost 3 (some .int) :: ((wsX6_cost_r1 ++ wsX6_cost_r2) ++ wsX60 ++ wsX10 ++ wsX00 ++ wsX30)
def wsX6_row : List Cond := .code yX6_row cX6_row 3 (some .int) :: ([.fieldLink RX6 26 "FaultHeaps" "reports" "LFaultHeaps$Reports;", .methodLink RX6 127 yX3_hasFrame, .instanceMethod yX3_hasFrame, .selects RX3 yX3_hasFrame yX3_hasFrame, .initialized RX3, .code yX3_hasFrame cX3_hasFrame 3 (some .boolean), .fieldLink RX3 16 "FaultHeaps$Reports" "lengths" "[I", .methodLink RX3 34 yX3_has, .instanceMethod yX3_has, .selects RX3 yX3_has yX3_has, .code yX3_has cX3_has 2 (some .boolean), .fieldLink RX3 30 "FaultHeaps$Reports" "number" "I", .methodLink RX6 130 yX3_frameAt, .instanceMethod yX3_frameAt, .selects RX3 yX3_frameAt yX3_frameAt, .code yX3_frameAt cX3_frameAt 3 (some .int), .fieldLink RX3 11 "FaultHeaps$Reports" "rows" "[[I"] ++ wsX60 ++ wsX30)
def wsX6_common : List Cond := .code yX6_common cX6_common 2 (some .int) :: ([.fieldLink RX6 26 "FaultHeaps" "reports" "LFaultHeaps$Reports;", .methodLink RX6 133 yX3_isCommon, .instanceMethod yX3_isCommon, .selects RX3 yX3_isCommon yX3_isCommon, .initialized RX3, .code yX3_isCommon cX3_isCommon 2 (some .boolean), .fieldLink RX3 30 "FaultHeaps$Reports" "number" "I", .fieldLink RX3 26 "FaultHeaps$Reports" "holders" "[J", .methodLink RX3 48 yJ13_bitCount_95d88, .static yJ13_bitCount_95d88, .initialized RJ13, .code yJ13_bitCount_95d88 cJ13_bitCount_95d88 2 (some .int), .constantLong RJ13 314 (6148914691236517205), .constantLong RJ13 316 (3689348814741910323), .constantLong RJ13 318 (1085102592571150095)] ++ wsX60 ++ wsX30)
def wsX6_sign_r1 : List Cond := [Cond.fieldLink RX6 26 "FaultHeaps" "reports" "LFaultHeaps$Reports;", Cond.fieldLink RX6 47 "FaultHeaps" "marks" "LFaultHeaps$Marks;", Cond.fieldLink RX6 40 "FaultHeaps" "heaps" "LFaultHeaps$Heaps;", Cond.methodLink RX6 111 yX3_has, Cond.instanceMethod yX3_has, Cond.selects RX3 yX3_has yX3_has, Cond.initialized RX3, Cond.code yX3_has cX3_has 2 (some .boolean), Cond.fieldLink RX3 30 "FaultHeaps$Reports" "number" "I", Cond.methodLink RX6 136 yX1_setBeside, Cond.instanceMethod yX1_setBeside, Cond.selects RX1 yX1_setBeside yX1_setBeside, Cond.initialized RX1, Cond.code yX1_setBeside cX1_setBeside 5 (some .long), Cond.fieldLink RX1 35 "FaultHeaps$Heaps" "reportsNumber" "I", Cond.methodLink RX1 60 yX1_areTogether, Cond.instanceMethod yX1_areTogether, Cond.selects RX1 yX1_areTogether yX1_areTogether, Cond.code yX1_areTogether cX1_areTogether 3 (some .boolean), Cond.fieldLink RX1 16 "FaultHeaps$Heaps" "heapOf" "[I", Cond.methodLink RX6 140 yX2_tell, Cond.instanceMethod yX2_tell, Cond.selects RX2 yX2_tell yX2_tell, Cond.initialized RX2]
def wsX6_sign_r2 : List Cond := [Cond.code yX2_tell cX2_tell 6 (some .int), Cond.fieldLink RX2 26 "FaultHeaps$Marks" "latestLength" "I", Cond.methodLink RX2 29 yX3_howMany, Cond.instanceMethod yX3_howMany, Cond.selects RX3 yX3_howMany yX3_howMany, Cond.code yX3_howMany cX3_howMany 1 (some .int), Cond.methodLink RX2 35 yX2_gatherShared, Cond.instanceMethod yX2_gatherShared, Cond.selects RX2 yX2_gatherShared yX2_gatherShared, Cond.code yX2_gatherShared cX2_gatherShared 7 none, Cond.fieldLink RX2 19 "FaultHeaps$Marks" "sharedNumber" "I", Cond.fieldLink RX2 9 "FaultHeaps$Marks" "shared" "[I", Cond.fieldLink RX2 15 "FaultHeaps$Marks" "holders" "[J", Cond.methodLink RX2 49 yX3_holdersOf, Cond.instanceMethod yX3_holdersOf, Cond.selects RX3 yX3_holdersOf yX3_holdersOf, Cond.code yX3_holdersOf cX3_holdersOf 2 (some .long), Cond.fieldLink RX3 26 "FaultHeaps$Reports" "holders" "[J", Cond.methodLink RX2 39 yX2_findOne, Cond.instanceMethod yX2_findOne, Cond.selects RX2 yX2_findOne yX2_findOne, Cond.code yX2_findOne cX2_findOne 4 (some .boolean), Cond.fieldLink RX2 23 "FaultHeaps$Marks" "latest" "[I", Cond.methodLink RX2 43 yX2_findTwo]
def wsX6_sign_r3 : List Cond := [Cond.instanceMethod yX2_findTwo, Cond.selects RX2 yX2_findTwo yX2_findTwo, Cond.code yX2_findTwo cX2_findTwo 5 (some .boolean), Cond.methodLink RX2 46 yX2_findThree, Cond.instanceMethod yX2_findThree, Cond.selects RX2 yX2_findThree yX2_findThree, Cond.code yX2_findThree cX2_findThree 6 (some .boolean)]
def wsX6_sign : List Cond := .code yX6_sign cX6_sign 2 (some .int) :: ((wsX6_sign_r1 ++ (wsX6_sign_r2 ++ wsX6_sign_r3)) ++ wsX60 ++ wsX30 ++ wsX10 ++ wsX20)
def wsX6_signed : List Cond := .code yX6_signed cX6_signed 2 (some .int) :: ([.fieldLink RX6 47 "FaultHeaps" "marks" "LFaultHeaps$Marks;", .methodLink RX6 144 yX2_latestAt, .instanceMethod yX2_latestAt, .selects RX2 yX2_latestAt yX2_latestAt, .initialized RX2, .code yX2_latestAt cX2_latestAt 2 (some .int), .fieldLink RX2 26 "FaultHeaps$Marks" "latestLength" "I", .fieldLink RX2 23 "FaultHeaps$Marks" "latest" "[I"] ++ wsX60 ++ wsX20)
def wsX6_fix : List Cond := .code yX6_fix cX6_fix 3 (some .boolean) :: ([.fieldLink RX6 26 "FaultHeaps" "reports" "LFaultHeaps$Reports;", .fieldLink RX6 19 "FaultHeaps" "versions" "LFaultHeaps$Versions;", .methodLink RX6 111 yX3_has, .instanceMethod yX3_has, .selects RX3 yX3_has yX3_has, .initialized RX3, .code yX3_has cX3_has 2 (some .boolean), .fieldLink RX3 30 "FaultHeaps$Reports" "number" "I", .methodLink RX6 62 yX5_has, .instanceMethod yX5_has, .selects RX5 yX5_has yX5_has, .initialized RX5, .code yX5_has cX5_has 2 (some .boolean), .fieldLink RX5 15 "FaultHeaps$Versions" "number" "I", .methodLink RX6 147 yX3_setFixedAt, .instanceMethod yX3_setFixedAt, .selects RX3 yX3_setFixedAt yX3_setFixedAt, .code yX3_setFixedAt cX3_setFixedAt 3 none, .fieldLink RX3 23 "FaultHeaps$Reports" "fixedIn" "[I"] ++ wsX60 ++ wsX30 ++ wsX50)
def wsX6_cameBack_r1 : List Cond := [Cond.fieldLink RX6 26 "FaultHeaps" "reports" "LFaultHeaps$Reports;", Cond.fieldLink RX6 40 "FaultHeaps" "heaps" "LFaultHeaps$Heaps;", Cond.fieldLink RX6 19 "FaultHeaps" "versions" "LFaultHeaps$Versions;", Cond.methodLink RX6 158 yX3_versionOf, Cond.instanceMethod yX3_versionOf, Cond.selects RX3 yX3_versionOf yX3_versionOf, Cond.initialized RX3, Cond.code yX3_versionOf cX3_versionOf 2 (some .int), Cond.fieldLink RX3 20 "FaultHeaps$Reports" "madeIn" "[I", Cond.methodLink RX6 178 yX3_howMany, Cond.instanceMethod yX3_howMany, Cond.selects RX3 yX3_howMany yX3_howMany, Cond.code yX3_howMany cX3_howMany 1 (some .int), Cond.fieldLink RX3 30 "FaultHeaps$Reports" "number" "I", Cond.methodLink RX6 164 yX3_fixedAt, Cond.instanceMethod yX3_fixedAt, Cond.selects RX3 yX3_fixedAt yX3_fixedAt, Cond.code yX3_fixedAt cX3_fixedAt 2 (some .int), Cond.fieldLink RX3 23 "FaultHeaps$Reports" "fixedIn" "[I", Cond.methodLink RX6 193 yX1_areTogether, Cond.instanceMethod yX1_areTogether, Cond.selects RX1 yX1_areTogether yX1_areTogether, Cond.initialized RX1, Cond.code yX1_areTogether cX1_areTogether 3 (some .boolean)]
def wsX6_cameBack_r2 : List Cond := [Cond.fieldLink RX1 16 "FaultHeaps$Heaps" "heapOf" "[I", Cond.methodLink RX6 175 yX5_isOrIsBehind, Cond.instanceMethod yX5_isOrIsBehind, Cond.selects RX5 yX5_isOrIsBehind yX5_isOrIsBehind, Cond.initialized RX5, Cond.code yX5_isOrIsBehind cX5_isOrIsBehind 3 (some .boolean), Cond.fieldLink RX5 9 "FaultHeaps$Versions" "lines" "[I"]
def wsX6_cameBack : List Cond := .code yX6_cameBack cX6_cameBack 5 (some .boolean) :: ((wsX6_cameBack_r1 ++ wsX6_cameBack_r2) ++ wsX60 ++ wsX30 ++ wsX10 ++ wsX50)
def wsX6_look_r1 : List Cond := [Cond.classLink RX6 151 "java/util/NoSuchElementException", Cond.initialized "java/util/NoSuchElementException", Cond.fieldLink RX6 26 "FaultHeaps" "reports" "LFaultHeaps$Reports;", Cond.fieldLink RX6 40 "FaultHeaps" "heaps" "LFaultHeaps$Heaps;", Cond.methodLink RX6 111 yX3_has, Cond.instanceMethod yX3_has, Cond.selects RX3 yX3_has yX3_has, Cond.initialized RX3, Cond.code yX3_has cX3_has 2 (some .boolean), Cond.fieldLink RX3 30 "FaultHeaps$Reports" "number" "I", Cond.methodLink RX6 158 yX3_versionOf, Cond.instanceMethod yX3_versionOf, Cond.selects RX3 yX3_versionOf yX3_versionOf, Cond.code yX3_versionOf cX3_versionOf 2 (some .int), Cond.fieldLink RX3 20 "FaultHeaps$Reports" "madeIn" "[I", Cond.methodLink RX6 161 yX3_lengthOf, Cond.instanceMethod yX3_lengthOf, Cond.selects RX3 yX3_lengthOf yX3_lengthOf, Cond.code yX3_lengthOf cX3_lengthOf 2 (some .int), Cond.fieldLink RX3 16 "FaultHeaps$Reports" "lengths" "[I", Cond.methodLink RX6 164 yX3_fixedAt, Cond.instanceMethod yX3_fixedAt, Cond.selects RX3 yX3_fixedAt yX3_fixedAt, Cond.code yX3_fixedAt cX3_fixedAt 2 (some .int)]
def wsX6_look_r2 : List Cond := [Cond.fieldLink RX3 23 "FaultHeaps$Reports" "fixedIn" "[I", Cond.methodLink RX6 167 yX6_cameBack, Cond.instanceMethod yX6_cameBack, Cond.selects RX6 yX6_cameBack yX6_cameBack, Cond.initialized RX6, Cond.code yX6_cameBack cX6_cameBack 5 (some .boolean), Cond.fieldLink RX6 19 "FaultHeaps" "versions" "LFaultHeaps$Versions;", Cond.methodLink RX6 178 yX3_howMany, Cond.instanceMethod yX3_howMany, Cond.selects RX3 yX3_howMany yX3_howMany, Cond.code yX3_howMany cX3_howMany 1 (some .int), Cond.methodLink RX6 193 yX1_areTogether, Cond.instanceMethod yX1_areTogether, Cond.selects RX1 yX1_areTogether yX1_areTogether, Cond.initialized RX1, Cond.code yX1_areTogether cX1_areTogether 3 (some .boolean), Cond.fieldLink RX1 16 "FaultHeaps$Heaps" "heapOf" "[I", Cond.methodLink RX6 175 yX5_isOrIsBehind, Cond.instanceMethod yX5_isOrIsBehind, Cond.selects RX5 yX5_isOrIsBehind yX5_isOrIsBehind, Cond.initialized RX5, Cond.code yX5_isOrIsBehind cX5_isOrIsBehind 3 (some .boolean), Cond.fieldLink RX5 9 "FaultHeaps$Versions" "lines" "[I", Cond.methodLink RX6 170 yX1_sizeBeside]
def wsX6_look_r3 : List Cond := [Cond.instanceMethod yX1_sizeBeside, Cond.selects RX1 yX1_sizeBeside yX1_sizeBeside, Cond.code yX1_sizeBeside cX1_sizeBeside 2 (some .int), Cond.fieldLink RX1 23 "FaultHeaps$Heaps" "sizes" "[I"]
def wsX6_look : List Cond := .code yX6_look cX6_look 3 (some .int) :: ((wsX6_look_r1 ++ (wsX6_look_r2 ++ wsX6_look_r3)) ++ wsX60 ++ wsX30 ++ wsX10 ++ wsX50 ++ (vx_atS RX6 155 "java/util/NoSuchElementException" ["java/lang/RuntimeException", "java/lang/Exception"]).filter goodWord)
def wsX6_behind : List Cond := .code yX6_behind cX6_behind 3 (some .int) :: ([.fieldLink RX6 19 "FaultHeaps" "versions" "LFaultHeaps$Versions;", .methodLink RX6 62 yX5_has, .instanceMethod yX5_has, .selects RX5 yX5_has yX5_has, .initialized RX5, .code yX5_has cX5_has 2 (some .boolean), .fieldLink RX5 15 "FaultHeaps$Versions" "number" "I", .methodLink RX6 175 yX5_isOrIsBehind, .instanceMethod yX5_isOrIsBehind, .selects RX5 yX5_isOrIsBehind yX5_isOrIsBehind, .code yX5_isOrIsBehind cX5_isOrIsBehind 3 (some .boolean), .fieldLink RX5 9 "FaultHeaps$Versions" "lines" "[I"] ++ wsX60 ++ wsX50)
def wsX6_howManyCameBack_r1 : List Cond := [Cond.fieldLink RX6 26 "FaultHeaps" "reports" "LFaultHeaps$Reports;", Cond.methodLink RX6 178 yX3_howMany, Cond.instanceMethod yX3_howMany, Cond.selects RX3 yX3_howMany yX3_howMany, Cond.initialized RX3, Cond.code yX3_howMany cX3_howMany 1 (some .int), Cond.fieldLink RX3 30 "FaultHeaps$Reports" "number" "I", Cond.methodLink RX6 167 yX6_cameBack, Cond.instanceMethod yX6_cameBack, Cond.selects RX6 yX6_cameBack yX6_cameBack, Cond.initialized RX6, Cond.code yX6_cameBack cX6_cameBack 5 (some .boolean), Cond.fieldLink RX6 40 "FaultHeaps" "heaps" "LFaultHeaps$Heaps;", Cond.fieldLink RX6 19 "FaultHeaps" "versions" "LFaultHeaps$Versions;", Cond.methodLink RX6 158 yX3_versionOf, Cond.instanceMethod yX3_versionOf, Cond.selects RX3 yX3_versionOf yX3_versionOf, Cond.code yX3_versionOf cX3_versionOf 2 (some .int), Cond.fieldLink RX3 20 "FaultHeaps$Reports" "madeIn" "[I", Cond.methodLink RX6 164 yX3_fixedAt, Cond.instanceMethod yX3_fixedAt, Cond.selects RX3 yX3_fixedAt yX3_fixedAt, Cond.code yX3_fixedAt cX3_fixedAt 2 (some .int), Cond.fieldLink RX3 23 "FaultHeaps$Reports" "fixedIn" "[I"]
def wsX6_howManyCameBack_r2 : List Cond := [Cond.methodLink RX6 193 yX1_areTogether, Cond.instanceMethod yX1_areTogether, Cond.selects RX1 yX1_areTogether yX1_areTogether, Cond.initialized RX1, Cond.code yX1_areTogether cX1_areTogether 3 (some .boolean), Cond.fieldLink RX1 16 "FaultHeaps$Heaps" "heapOf" "[I", Cond.methodLink RX6 175 yX5_isOrIsBehind, Cond.instanceMethod yX5_isOrIsBehind, Cond.selects RX5 yX5_isOrIsBehind yX5_isOrIsBehind, Cond.initialized RX5, Cond.code yX5_isOrIsBehind cX5_isOrIsBehind 3 (some .boolean), Cond.fieldLink RX5 9 "FaultHeaps$Versions" "lines" "[I"]
def wsX6_howManyCameBack : List Cond := .code yX6_howManyCameBack cX6_howManyCameBack 3 (some .int) :: ((wsX6_howManyCameBack_r1 ++ wsX6_howManyCameBack_r2) ++ wsX60 ++ wsX30 ++ wsX10 ++ wsX50)
def wsX6_count_r1 : List Cond := [Cond.fieldLink RX6 26 "FaultHeaps" "reports" "LFaultHeaps$Reports;", Cond.fieldLink RX6 40 "FaultHeaps" "heaps" "LFaultHeaps$Heaps;", Cond.fieldLink RX6 19 "FaultHeaps" "versions" "LFaultHeaps$Versions;", Cond.fieldLink RX6 10 "FaultHeaps" "told" "LFaultHeaps$ToldRow;", Cond.methodLink RX6 178 yX3_howMany, Cond.instanceMethod yX3_howMany, Cond.selects RX3 yX3_howMany yX3_howMany, Cond.initialized RX3, Cond.code yX3_howMany cX3_howMany 1 (some .int), Cond.fieldLink RX3 30 "FaultHeaps$Reports" "number" "I", Cond.methodLink RX6 107 yX1_howMany, Cond.instanceMethod yX1_howMany, Cond.selects RX1 yX1_howMany yX1_howMany, Cond.initialized RX1, Cond.code yX1_howMany cX1_howMany 1 (some .int), Cond.fieldLink RX1 39 "FaultHeaps$Heaps" "heapsNumber" "I", Cond.methodLink RX6 179 yX5_howMany, Cond.instanceMethod yX5_howMany, Cond.selects RX5 yX5_howMany yX5_howMany, Cond.initialized RX5, Cond.code yX5_howMany cX5_howMany 1 (some .int), Cond.fieldLink RX5 15 "FaultHeaps$Versions" "number" "I", Cond.methodLink RX6 180 yX1_getT, Cond.instanceMethod yX1_getT]
def wsX6_count_r2 : List Cond := [Cond.selects RX1 yX1_getT yX1_getT, Cond.code yX1_getT cX1_getT 1 (some .int), Cond.fieldLink RX1 42 "FaultHeaps$Heaps" "limit" "I", Cond.methodLink RX6 183 yX4_howMany, Cond.instanceMethod yX4_howMany, Cond.selects RX4 yX4_howMany yX4_howMany, Cond.initialized RX4, Cond.code yX4_howMany cX4_howMany 1 (some .int), Cond.fieldLink RX4 15 "FaultHeaps$ToldRow" "length" "I", Cond.methodLink RX6 184 yX3_howManyCommon, Cond.instanceMethod yX3_howManyCommon, Cond.selects RX3 yX3_howManyCommon yX3_howManyCommon, Cond.code yX3_howManyCommon cX3_howManyCommon 3 (some .int), Cond.methodLink RX3 54 yX3_isCommon, Cond.instanceMethod yX3_isCommon, Cond.selects RX3 yX3_isCommon yX3_isCommon, Cond.code yX3_isCommon cX3_isCommon 2 (some .boolean), Cond.fieldLink RX3 26 "FaultHeaps$Reports" "holders" "[J", Cond.methodLink RX3 48 yJ13_bitCount_95d88, Cond.static yJ13_bitCount_95d88, Cond.initialized RJ13, Cond.code yJ13_bitCount_95d88 cJ13_bitCount_95d88 2 (some .int), Cond.constantLong RJ13 314 (6148914691236517205), Cond.constantLong RJ13 316 (3689348814741910323)]
def wsX6_count_r3 : List Cond := [Cond.constantLong RJ13 318 (1085102592571150095), Cond.methodLink RX6 187 yX1_changesDone, Cond.instanceMethod yX1_changesDone, Cond.selects RX1 yX1_changesDone yX1_changesDone, Cond.code yX1_changesDone cX1_changesDone 1 (some .int), Cond.fieldLink RX1 45 "FaultHeaps$Heaps" "changes" "I", Cond.methodLink RX6 190 yX6_howManyCameBack, Cond.instanceMethod yX6_howManyCameBack, Cond.selects RX6 yX6_howManyCameBack yX6_howManyCameBack, Cond.initialized RX6, Cond.code yX6_howManyCameBack cX6_howManyCameBack 3 (some .int), Cond.methodLink RX6 167 yX6_cameBack, Cond.instanceMethod yX6_cameBack, Cond.selects RX6 yX6_cameBack yX6_cameBack, Cond.code yX6_cameBack cX6_cameBack 5 (some .boolean), Cond.methodLink RX6 158 yX3_versionOf, Cond.instanceMethod yX3_versionOf, Cond.selects RX3 yX3_versionOf yX3_versionOf, Cond.code yX3_versionOf cX3_versionOf 2 (some .int), Cond.fieldLink RX3 20 "FaultHeaps$Reports" "madeIn" "[I", Cond.methodLink RX6 164 yX3_fixedAt, Cond.instanceMethod yX3_fixedAt, Cond.selects RX3 yX3_fixedAt yX3_fixedAt, Cond.code yX3_fixedAt cX3_fixedAt 2 (some .int)]
def wsX6_count_r4 : List Cond := [Cond.fieldLink RX3 23 "FaultHeaps$Reports" "fixedIn" "[I", Cond.methodLink RX6 193 yX1_areTogether, Cond.instanceMethod yX1_areTogether, Cond.selects RX1 yX1_areTogether yX1_areTogether, Cond.code yX1_areTogether cX1_areTogether 3 (some .boolean), Cond.fieldLink RX1 16 "FaultHeaps$Heaps" "heapOf" "[I", Cond.methodLink RX6 175 yX5_isOrIsBehind, Cond.instanceMethod yX5_isOrIsBehind, Cond.selects RX5 yX5_isOrIsBehind yX5_isOrIsBehind, Cond.code yX5_isOrIsBehind cX5_isOrIsBehind 3 (some .boolean), Cond.fieldLink RX5 9 "FaultHeaps$Versions" "lines" "[I"]
def wsX6_count : List Cond := .code yX6_count cX6_count 2 (some .int) :: ((wsX6_count_r1 ++ (wsX6_count_r2 ++ (wsX6_count_r3 ++ wsX6_count_r4))) ++ wsX60 ++ wsX30 ++ wsX10 ++ wsX50 ++ wsX40)
def wsX7_thrown : List Cond := .code yX7_thrown cX7_thrown 1 (some .int) :: ([.fieldLink RX7 1 "FaultHeapsModel" "thrown" "I"] ++ wsX70)
def wsX7_init : List Cond := .code yX7_init cX7_init 1 none :: ([.methodLink RX7 7 objectInit, .instanceMethod objectInit, .code objectInit ⟨#[0xb1]⟩ 1 none, .fieldLink RX7 13 "FaultHeapsModel" "versions" "I", .arrayClass .int, .fieldLink RX7 16 "FaultHeapsModel" "madeFrom" "[I", .fieldLink RX7 20 "FaultHeapsModel" "draft" "[I", .fieldLink RX7 23 "FaultHeapsModel" "rows" "[I", .fieldLink RX7 26 "FaultHeapsModel" "sizes" "[I", .fieldLink RX7 29 "FaultHeapsModel" "versionOf" "[I", .fieldLink RX7 32 "FaultHeapsModel" "fixedAt" "[I", .fieldLink RX7 35 "FaultHeapsModel" "heapOf" "[I", .fieldLink RX7 38 "FaultHeapsModel" "one" "[I", .fieldLink RX7 41 "FaultHeapsModel" "two" "[I", .fieldLink RX7 44 "FaultHeapsModel" "cost" "[I", .fieldLink RX7 47 "FaultHeapsModel" "distance" "[I", .arrayClass .boolean, .fieldLink RX7 50 "FaultHeapsModel" "common" "[Z", .fieldLink RX7 54 "FaultHeapsModel" "mark" "I", .fieldLink RX7 57 "FaultHeapsModel" "must" "[I", .fieldLink RX7 60 "FaultHeapsModel" "newName" "[I", .fieldLink RX7 63 "FaultHeapsModel" "sign" "[I", .fieldLink RX7 66 "FaultHeapsModel" "draftSign" "[I", .fieldLink RX7 69 "FaultHeapsModel" "share" "[I"] ++ wsX70)
def wsX7_isVersion : List Cond := .code yX7_isVersion cX7_isVersion 2 (some .boolean) :: ([.fieldLink RX7 13 "FaultHeapsModel" "versions" "I"] ++ wsX70)
def wsX7_version : List Cond := .code yX7_version cX7_version 2 (some .int) :: ([.fieldLink RX7 1 "FaultHeapsModel" "thrown" "I", .fieldLink RX7 13 "FaultHeapsModel" "versions" "I", .fieldLink RX7 16 "FaultHeapsModel" "madeFrom" "[I", .methodLink RX7 72 yX7_isVersion, .instanceMethod yX7_isVersion, .selects RX7 yX7_isVersion yX7_isVersion, .initialized RX7, .code yX7_isVersion cX7_isVersion 2 (some .boolean)] ++ wsX70)
def wsX7_isBehind : List Cond := .code yX7_isBehind cX7_isBehind 4 (some .boolean) :: ([.fieldLink RX7 16 "FaultHeapsModel" "madeFrom" "[I"] ++ wsX70)
def wsX7_behind : List Cond := .code yX7_behind cX7_behind 3 (some .int) :: ([.fieldLink RX7 1 "FaultHeapsModel" "thrown" "I", .methodLink RX7 72 yX7_isVersion, .instanceMethod yX7_isVersion, .selects RX7 yX7_isVersion yX7_isVersion, .initialized RX7, .code yX7_isVersion cX7_isVersion 2 (some .boolean), .fieldLink RX7 13 "FaultHeapsModel" "versions" "I", .methodLink RX7 76 yX7_isBehind, .instanceMethod yX7_isBehind, .selects RX7 yX7_isBehind yX7_isBehind, .code yX7_isBehind cX7_isBehind 4 (some .boolean), .fieldLink RX7 16 "FaultHeapsModel" "madeFrom" "[I"] ++ wsX70)
def wsX7_frame : List Cond := .code yX7_frame cX7_frame 2 (some .int) :: ([.fieldLink RX7 1 "FaultHeapsModel" "thrown" "I", .fieldLink RX7 80 "FaultHeapsModel" "told" "I", .fieldLink RX7 20 "FaultHeapsModel" "draft" "[I"] ++ wsX70)
def wsX7_isTwice : List Cond := .code yX7_isTwice cX7_isTwice 5 (some .boolean) :: ([.fieldLink RX7 80 "FaultHeapsModel" "told" "I", .fieldLink RX7 20 "FaultHeapsModel" "draft" "[I"] ++ wsX70)
def wsX7_folds : List Cond := .code yX7_folds cX7_folds 4 (some .boolean) :: ([.fieldLink RX7 80 "FaultHeapsModel" "told" "I", .fieldLink RX7 20 "FaultHeapsModel" "draft" "[I", .methodLink RX7 83 yX7_isTwice, .instanceMethod yX7_isTwice, .selects RX7 yX7_isTwice yX7_isTwice, .initialized RX7, .code yX7_isTwice cX7_isTwice 5 (some .boolean)] ++ wsX70)
def wsX7_stands : List Cond := .code yX7_stands cX7_stands 5 (some .boolean) :: ([.fieldLink RX7 26 "FaultHeapsModel" "sizes" "[I", .fieldLink RX7 23 "FaultHeapsModel" "rows" "[I"] ++ wsX70)
def wsX7_isCommon : List Cond := .code yX7_isCommon cX7_isCommon 4 (some .boolean) :: ([.fieldLink RX7 86 "FaultHeapsModel" "reports" "I", .methodLink RX7 96 yX7_stands, .instanceMethod yX7_stands, .selects RX7 yX7_stands yX7_stands, .initialized RX7, .code yX7_stands cX7_stands 5 (some .boolean), .fieldLink RX7 26 "FaultHeapsModel" "sizes" "[I", .fieldLink RX7 23 "FaultHeapsModel" "rows" "[I"] ++ wsX70)
def wsX7_findCommon : List Cond := .code yX7_findCommon cX7_findCommon 2 none :: ([.fieldLink RX7 50 "FaultHeapsModel" "common" "[Z", .methodLink RX7 99 yX7_isCommon, .instanceMethod yX7_isCommon, .selects RX7 yX7_isCommon yX7_isCommon, .initialized RX7, .code yX7_isCommon cX7_isCommon 4 (some .boolean), .fieldLink RX7 86 "FaultHeapsModel" "reports" "I", .methodLink RX7 96 yX7_stands, .instanceMethod yX7_stands, .selects RX7 yX7_stands yX7_stands, .code yX7_stands cX7_stands 5 (some .boolean), .fieldLink RX7 26 "FaultHeapsModel" "sizes" "[I", .fieldLink RX7 23 "FaultHeapsModel" "rows" "[I"] ++ wsX70)
def wsX7_withoutCommon : List Cond := .code yX7_withoutCommon cX7_withoutCommon 6 (some .int) :: ([.fieldLink RX7 26 "FaultHeapsModel" "sizes" "[I", .fieldLink RX7 23 "FaultHeapsModel" "rows" "[I", .fieldLink RX7 50 "FaultHeapsModel" "common" "[Z"] ++ wsX70)
def wsX7_alone : List Cond := .code yX7_alone cX7_alone 1 (some .int) :: ([])
def wsX7_least : List Cond := .code yX7_least cX7_least 2 (some .int) :: ([])
def wsX7_change : List Cond := .code yX7_change cX7_change 2 (some .int) :: ([])
def wsX7_turns : List Cond := .code yX7_turns cX7_turns 6 (some .int) :: ([.fieldLink RX7 38 "FaultHeapsModel" "one" "[I", .fieldLink RX7 106 "FaultHeapsModel" "oneMany" "I", .fieldLink RX7 41 "FaultHeapsModel" "two" "[I", .fieldLink RX7 109 "FaultHeapsModel" "twoMany" "I", .fieldLink RX7 44 "FaultHeapsModel" "cost" "[I", .methodLink RX7 102 yX7_withoutCommon, .instanceMethod yX7_withoutCommon, .selects RX7 yX7_withoutCommon yX7_withoutCommon, .initialized RX7, .code yX7_withoutCommon cX7_withoutCommon 6 (some .int), .fieldLink RX7 26 "FaultHeapsModel" "sizes" "[I", .fieldLink RX7 23 "FaultHeapsModel" "rows" "[I", .fieldLink RX7 50 "FaultHeapsModel" "common" "[Z", .methodLink RX7 112 yX7_alone, .static yX7_alone, .code yX7_alone cX7_alone 1 (some .int), .methodLink RX7 116 yX7_least, .static yX7_least, .code yX7_least cX7_least 2 (some .int), .methodLink RX7 120 yX7_change, .static yX7_change, .code yX7_change cX7_change 2 (some .int)] ++ wsX70)
def wsX7_findDistances_r1 : List Cond := [Cond.fieldLink RX7 86 "FaultHeapsModel" "reports" "I", Cond.fieldLink RX7 47 "FaultHeapsModel" "distance" "[I", Cond.methodLink RX7 123 yX7_findCommon, Cond.instanceMethod yX7_findCommon, Cond.selects RX7 yX7_findCommon yX7_findCommon, Cond.initialized RX7, Cond.code yX7_findCommon cX7_findCommon 2 none, Cond.fieldLink RX7 50 "FaultHeapsModel" "common" "[Z", Cond.methodLink RX7 99 yX7_isCommon, Cond.instanceMethod yX7_isCommon, Cond.selects RX7 yX7_isCommon yX7_isCommon, Cond.code yX7_isCommon cX7_isCommon 4 (some .boolean), Cond.methodLink RX7 96 yX7_stands, Cond.instanceMethod yX7_stands, Cond.selects RX7 yX7_stands yX7_stands, Cond.code yX7_stands cX7_stands 5 (some .boolean), Cond.fieldLink RX7 26 "FaultHeapsModel" "sizes" "[I", Cond.fieldLink RX7 23 "FaultHeapsModel" "rows" "[I", Cond.methodLink RX7 126 yX7_turns, Cond.instanceMethod yX7_turns, Cond.selects RX7 yX7_turns yX7_turns, Cond.code yX7_turns cX7_turns 6 (some .int), Cond.fieldLink RX7 38 "FaultHeapsModel" "one" "[I", Cond.fieldLink RX7 106 "FaultHeapsModel" "oneMany" "I"]
def wsX7_findDistances_r2 : List Cond := [Cond.fieldLink RX7 41 "FaultHeapsModel" "two" "[I", Cond.fieldLink RX7 109 "FaultHeapsModel" "twoMany" "I", Cond.fieldLink RX7 44 "FaultHeapsModel" "cost" "[I", Cond.methodLink RX7 102 yX7_withoutCommon, Cond.instanceMethod yX7_withoutCommon, Cond.selects RX7 yX7_withoutCommon yX7_withoutCommon, Cond.code yX7_withoutCommon cX7_withoutCommon 6 (some .int), Cond.methodLink RX7 112 yX7_alone, Cond.static yX7_alone, Cond.code yX7_alone cX7_alone 1 (some .int), Cond.methodLink RX7 116 yX7_least, Cond.static yX7_least, Cond.code yX7_least cX7_least 2 (some .int), Cond.methodLink RX7 120 yX7_change, Cond.static yX7_change, Cond.code yX7_change cX7_change 2 (some .int)]
def wsX7_findDistances : List Cond := .code yX7_findDistances cX7_findDistances 3 none :: ((wsX7_findDistances_r1 ++ wsX7_findDistances_r2) ++ wsX70)
def wsX7_pairCost : List Cond := .code yX7_pairCost cX7_pairCost 6 (some .int) :: ([.fieldLink RX7 47 "FaultHeapsModel" "distance" "[I", .fieldLink RX7 57 "FaultHeapsModel" "must" "[I", .fieldLink RX7 54 "FaultHeapsModel" "mark" "I"] ++ wsX70)
def wsX7_gain : List Cond := .code yX7_gain cX7_gain 3 (some .int) :: ([.methodLink RX7 129 yX7_pairCost, .instanceMethod yX7_pairCost, .selects RX7 yX7_pairCost yX7_pairCost, .initialized RX7, .code yX7_pairCost cX7_pairCost 6 (some .int), .fieldLink RX7 47 "FaultHeapsModel" "distance" "[I", .fieldLink RX7 57 "FaultHeapsModel" "must" "[I", .fieldLink RX7 54 "FaultHeapsModel" "mark" "I"] ++ wsX70)
def wsX7_moved : List Cond := .code yX7_moved cX7_moved 5 (some .int) :: ([.fieldLink RX7 86 "FaultHeapsModel" "reports" "I", .fieldLink RX7 35 "FaultHeapsModel" "heapOf" "[I", .methodLink RX7 133 yX7_gain, .instanceMethod yX7_gain, .selects RX7 yX7_gain yX7_gain, .initialized RX7, .code yX7_gain cX7_gain 3 (some .int), .methodLink RX7 129 yX7_pairCost, .instanceMethod yX7_pairCost, .selects RX7 yX7_pairCost yX7_pairCost, .code yX7_pairCost cX7_pairCost 6 (some .int), .fieldLink RX7 47 "FaultHeapsModel" "distance" "[I", .fieldLink RX7 57 "FaultHeapsModel" "must" "[I", .fieldLink RX7 54 "FaultHeapsModel" "mark" "I"] ++ wsX70)
def wsX7_asks : List Cond := .code yX7_asks cX7_asks 5 none :: ([.fieldLink RX7 136 "FaultHeapsModel" "bestBy" "I", .fieldLink RX7 139 "FaultHeapsModel" "bestWho" "I", .fieldLink RX7 142 "FaultHeapsModel" "bestTo" "I", .fieldLink RX7 145 "FaultHeapsModel" "bestMelts" "Z"] ++ wsX70)
def wsX7_inHeap : List Cond := .code yX7_inHeap cX7_inHeap 4 (some .int) :: ([.fieldLink RX7 86 "FaultHeapsModel" "reports" "I", .fieldLink RX7 35 "FaultHeapsModel" "heapOf" "[I"] ++ wsX70)
def wsX7_melted : List Cond := .code yX7_melted cX7_melted 6 (some .int) :: ([.fieldLink RX7 86 "FaultHeapsModel" "reports" "I", .fieldLink RX7 35 "FaultHeapsModel" "heapOf" "[I", .methodLink RX7 133 yX7_gain, .instanceMethod yX7_gain, .selects RX7 yX7_gain yX7_gain, .initialized RX7, .code yX7_gain cX7_gain 3 (some .int), .methodLink RX7 129 yX7_pairCost, .instanceMethod yX7_pairCost, .selects RX7 yX7_pairCost yX7_pairCost, .code yX7_pairCost cX7_pairCost 6 (some .int), .fieldLink RX7 47 "FaultHeapsModel" "distance" "[I", .fieldLink RX7 57 "FaultHeapsModel" "must" "[I", .fieldLink RX7 54 "FaultHeapsModel" "mark" "I"] ++ wsX70)
def wsX7_findBest_r1 : List Cond := [Cond.fieldLink RX7 136 "FaultHeapsModel" "bestBy" "I", Cond.fieldLink RX7 86 "FaultHeapsModel" "reports" "I", Cond.fieldLink RX7 35 "FaultHeapsModel" "heapOf" "[I", Cond.methodLink RX7 149 yX7_moved, Cond.instanceMethod yX7_moved, Cond.selects RX7 yX7_moved yX7_moved, Cond.initialized RX7, Cond.code yX7_moved cX7_moved 5 (some .int), Cond.methodLink RX7 133 yX7_gain, Cond.instanceMethod yX7_gain, Cond.selects RX7 yX7_gain yX7_gain, Cond.code yX7_gain cX7_gain 3 (some .int), Cond.methodLink RX7 129 yX7_pairCost, Cond.instanceMethod yX7_pairCost, Cond.selects RX7 yX7_pairCost yX7_pairCost, Cond.code yX7_pairCost cX7_pairCost 6 (some .int), Cond.fieldLink RX7 47 "FaultHeapsModel" "distance" "[I", Cond.fieldLink RX7 57 "FaultHeapsModel" "must" "[I", Cond.fieldLink RX7 54 "FaultHeapsModel" "mark" "I", Cond.methodLink RX7 152 yX7_asks, Cond.instanceMethod yX7_asks, Cond.selects RX7 yX7_asks yX7_asks, Cond.code yX7_asks cX7_asks 5 none, Cond.fieldLink RX7 139 "FaultHeapsModel" "bestWho" "I"]
def wsX7_findBest_r2 : List Cond := [Cond.fieldLink RX7 142 "FaultHeapsModel" "bestTo" "I", Cond.fieldLink RX7 145 "FaultHeapsModel" "bestMelts" "Z", Cond.methodLink RX7 156 yX7_inHeap, Cond.instanceMethod yX7_inHeap, Cond.selects RX7 yX7_inHeap yX7_inHeap, Cond.code yX7_inHeap cX7_inHeap 4 (some .int), Cond.methodLink RX7 159 yX7_melted, Cond.instanceMethod yX7_melted, Cond.selects RX7 yX7_melted yX7_melted, Cond.code yX7_melted cX7_melted 6 (some .int)]
def wsX7_findBest : List Cond := .code yX7_findBest cX7_findBest 3 none :: ((wsX7_findBest_r1 ++ wsX7_findBest_r2) ++ wsX70)
def wsX7_names : List Cond := .code yX7_names cX7_names 3 none :: ([.fieldLink RX7 86 "FaultHeapsModel" "reports" "I", .fieldLink RX7 35 "FaultHeapsModel" "heapOf" "[I", .fieldLink RX7 60 "FaultHeapsModel" "newName" "[I"] ++ wsX70)
def wsX7_settles_r1 : List Cond := [Cond.fieldLink RX7 136 "FaultHeapsModel" "bestBy" "I", Cond.fieldLink RX7 86 "FaultHeapsModel" "reports" "I", Cond.fieldLink RX7 145 "FaultHeapsModel" "bestMelts" "Z", Cond.fieldLink RX7 35 "FaultHeapsModel" "heapOf" "[I", Cond.fieldLink RX7 142 "FaultHeapsModel" "bestTo" "I", Cond.fieldLink RX7 139 "FaultHeapsModel" "bestWho" "I", Cond.fieldLink RX7 171 "FaultHeapsModel" "changes" "I", Cond.methodLink RX7 162 yX7_findDistances, Cond.instanceMethod yX7_findDistances, Cond.selects RX7 yX7_findDistances yX7_findDistances, Cond.initialized RX7, Cond.code yX7_findDistances cX7_findDistances 3 none, Cond.fieldLink RX7 47 "FaultHeapsModel" "distance" "[I", Cond.methodLink RX7 123 yX7_findCommon, Cond.instanceMethod yX7_findCommon, Cond.selects RX7 yX7_findCommon yX7_findCommon, Cond.code yX7_findCommon cX7_findCommon 2 none, Cond.fieldLink RX7 50 "FaultHeapsModel" "common" "[Z", Cond.methodLink RX7 99 yX7_isCommon, Cond.instanceMethod yX7_isCommon, Cond.selects RX7 yX7_isCommon yX7_isCommon, Cond.code yX7_isCommon cX7_isCommon 4 (some .boolean), Cond.methodLink RX7 96 yX7_stands, Cond.instanceMethod yX7_stands]
def wsX7_settles_r2 : List Cond := [Cond.selects RX7 yX7_stands yX7_stands, Cond.code yX7_stands cX7_stands 5 (some .boolean), Cond.fieldLink RX7 26 "FaultHeapsModel" "sizes" "[I", Cond.fieldLink RX7 23 "FaultHeapsModel" "rows" "[I", Cond.methodLink RX7 126 yX7_turns, Cond.instanceMethod yX7_turns, Cond.selects RX7 yX7_turns yX7_turns, Cond.code yX7_turns cX7_turns 6 (some .int), Cond.fieldLink RX7 38 "FaultHeapsModel" "one" "[I", Cond.fieldLink RX7 106 "FaultHeapsModel" "oneMany" "I", Cond.fieldLink RX7 41 "FaultHeapsModel" "two" "[I", Cond.fieldLink RX7 109 "FaultHeapsModel" "twoMany" "I", Cond.fieldLink RX7 44 "FaultHeapsModel" "cost" "[I", Cond.methodLink RX7 102 yX7_withoutCommon, Cond.instanceMethod yX7_withoutCommon, Cond.selects RX7 yX7_withoutCommon yX7_withoutCommon, Cond.code yX7_withoutCommon cX7_withoutCommon 6 (some .int), Cond.methodLink RX7 112 yX7_alone, Cond.static yX7_alone, Cond.code yX7_alone cX7_alone 1 (some .int), Cond.methodLink RX7 116 yX7_least, Cond.static yX7_least, Cond.code yX7_least cX7_least 2 (some .int), Cond.methodLink RX7 120 yX7_change]
def wsX7_settles_r3 : List Cond := [Cond.static yX7_change, Cond.code yX7_change cX7_change 2 (some .int), Cond.methodLink RX7 165 yX7_findBest, Cond.instanceMethod yX7_findBest, Cond.selects RX7 yX7_findBest yX7_findBest, Cond.code yX7_findBest cX7_findBest 3 none, Cond.methodLink RX7 149 yX7_moved, Cond.instanceMethod yX7_moved, Cond.selects RX7 yX7_moved yX7_moved, Cond.code yX7_moved cX7_moved 5 (some .int), Cond.methodLink RX7 133 yX7_gain, Cond.instanceMethod yX7_gain, Cond.selects RX7 yX7_gain yX7_gain, Cond.code yX7_gain cX7_gain 3 (some .int), Cond.methodLink RX7 129 yX7_pairCost, Cond.instanceMethod yX7_pairCost, Cond.selects RX7 yX7_pairCost yX7_pairCost, Cond.code yX7_pairCost cX7_pairCost 6 (some .int), Cond.fieldLink RX7 57 "FaultHeapsModel" "must" "[I", Cond.fieldLink RX7 54 "FaultHeapsModel" "mark" "I", Cond.methodLink RX7 152 yX7_asks, Cond.instanceMethod yX7_asks, Cond.selects RX7 yX7_asks yX7_asks, Cond.code yX7_asks cX7_asks 5 none]
def wsX7_settles_r4 : List Cond := [Cond.methodLink RX7 156 yX7_inHeap, Cond.instanceMethod yX7_inHeap, Cond.selects RX7 yX7_inHeap yX7_inHeap, Cond.code yX7_inHeap cX7_inHeap 4 (some .int), Cond.methodLink RX7 159 yX7_melted, Cond.instanceMethod yX7_melted, Cond.selects RX7 yX7_melted yX7_melted, Cond.code yX7_melted cX7_melted 6 (some .int), Cond.methodLink RX7 168 yX7_names, Cond.instanceMethod yX7_names, Cond.selects RX7 yX7_names yX7_names, Cond.code yX7_names cX7_names 3 none, Cond.fieldLink RX7 60 "FaultHeapsModel" "newName" "[I"]
def wsX7_settles : List Cond := .code yX7_settles cX7_settles 2 none :: ((wsX7_settles_r1 ++ (wsX7_settles_r2 ++ (wsX7_settles_r3 ++ wsX7_settles_r4))) ++ wsX70)
def wsX7_report_r1 : List Cond := [Cond.fieldLink RX7 1 "FaultHeapsModel" "thrown" "I", Cond.fieldLink RX7 80 "FaultHeapsModel" "told" "I", Cond.fieldLink RX7 86 "FaultHeapsModel" "reports" "I", Cond.fieldLink RX7 23 "FaultHeapsModel" "rows" "[I", Cond.fieldLink RX7 20 "FaultHeapsModel" "draft" "[I", Cond.fieldLink RX7 26 "FaultHeapsModel" "sizes" "[I", Cond.fieldLink RX7 29 "FaultHeapsModel" "versionOf" "[I", Cond.fieldLink RX7 32 "FaultHeapsModel" "fixedAt" "[I", Cond.fieldLink RX7 35 "FaultHeapsModel" "heapOf" "[I", Cond.methodLink RX7 72 yX7_isVersion, Cond.instanceMethod yX7_isVersion, Cond.selects RX7 yX7_isVersion yX7_isVersion, Cond.initialized RX7, Cond.code yX7_isVersion cX7_isVersion 2 (some .boolean), Cond.fieldLink RX7 13 "FaultHeapsModel" "versions" "I", Cond.methodLink RX7 89 yX7_folds, Cond.instanceMethod yX7_folds, Cond.selects RX7 yX7_folds yX7_folds, Cond.code yX7_folds cX7_folds 4 (some .boolean), Cond.methodLink RX7 83 yX7_isTwice, Cond.instanceMethod yX7_isTwice, Cond.selects RX7 yX7_isTwice yX7_isTwice, Cond.code yX7_isTwice cX7_isTwice 5 (some .boolean), Cond.methodLink RX7 93 yX7_settles]
def wsX7_report_r2 : List Cond := [Cond.instanceMethod yX7_settles, Cond.selects RX7 yX7_settles yX7_settles, Cond.code yX7_settles cX7_settles 2 none, Cond.fieldLink RX7 136 "FaultHeapsModel" "bestBy" "I", Cond.fieldLink RX7 145 "FaultHeapsModel" "bestMelts" "Z", Cond.fieldLink RX7 142 "FaultHeapsModel" "bestTo" "I", Cond.fieldLink RX7 139 "FaultHeapsModel" "bestWho" "I", Cond.fieldLink RX7 171 "FaultHeapsModel" "changes" "I", Cond.methodLink RX7 162 yX7_findDistances, Cond.instanceMethod yX7_findDistances, Cond.selects RX7 yX7_findDistances yX7_findDistances, Cond.code yX7_findDistances cX7_findDistances 3 none, Cond.fieldLink RX7 47 "FaultHeapsModel" "distance" "[I", Cond.methodLink RX7 123 yX7_findCommon, Cond.instanceMethod yX7_findCommon, Cond.selects RX7 yX7_findCommon yX7_findCommon, Cond.code yX7_findCommon cX7_findCommon 2 none, Cond.fieldLink RX7 50 "FaultHeapsModel" "common" "[Z", Cond.methodLink RX7 99 yX7_isCommon, Cond.instanceMethod yX7_isCommon, Cond.selects RX7 yX7_isCommon yX7_isCommon, Cond.code yX7_isCommon cX7_isCommon 4 (some .boolean), Cond.methodLink RX7 96 yX7_stands, Cond.instanceMethod yX7_stands]
def wsX7_report_r3 : List Cond := [Cond.selects RX7 yX7_stands yX7_stands, Cond.code yX7_stands cX7_stands 5 (some .boolean), Cond.methodLink RX7 126 yX7_turns, Cond.instanceMethod yX7_turns, Cond.selects RX7 yX7_turns yX7_turns, Cond.code yX7_turns cX7_turns 6 (some .int), Cond.fieldLink RX7 38 "FaultHeapsModel" "one" "[I", Cond.fieldLink RX7 106 "FaultHeapsModel" "oneMany" "I", Cond.fieldLink RX7 41 "FaultHeapsModel" "two" "[I", Cond.fieldLink RX7 109 "FaultHeapsModel" "twoMany" "I", Cond.fieldLink RX7 44 "FaultHeapsModel" "cost" "[I", Cond.methodLink RX7 102 yX7_withoutCommon, Cond.instanceMethod yX7_withoutCommon, Cond.selects RX7 yX7_withoutCommon yX7_withoutCommon, Cond.code yX7_withoutCommon cX7_withoutCommon 6 (some .int), Cond.methodLink RX7 112 yX7_alone, Cond.static yX7_alone, Cond.code yX7_alone cX7_alone 1 (some .int), Cond.methodLink RX7 116 yX7_least, Cond.static yX7_least, Cond.code yX7_least cX7_least 2 (some .int), Cond.methodLink RX7 120 yX7_change, Cond.static yX7_change, Cond.code yX7_change cX7_change 2 (some .int)]
def wsX7_report_r4 : List Cond := [Cond.methodLink RX7 165 yX7_findBest, Cond.instanceMethod yX7_findBest, Cond.selects RX7 yX7_findBest yX7_findBest, Cond.code yX7_findBest cX7_findBest 3 none, Cond.methodLink RX7 149 yX7_moved, Cond.instanceMethod yX7_moved, Cond.selects RX7 yX7_moved yX7_moved, Cond.code yX7_moved cX7_moved 5 (some .int), Cond.methodLink RX7 133 yX7_gain, Cond.instanceMethod yX7_gain, Cond.selects RX7 yX7_gain yX7_gain, Cond.code yX7_gain cX7_gain 3 (some .int), Cond.methodLink RX7 129 yX7_pairCost, Cond.instanceMethod yX7_pairCost, Cond.selects RX7 yX7_pairCost yX7_pairCost, Cond.code yX7_pairCost cX7_pairCost 6 (some .int), Cond.fieldLink RX7 57 "FaultHeapsModel" "must" "[I", Cond.fieldLink RX7 54 "FaultHeapsModel" "mark" "I", Cond.methodLink RX7 152 yX7_asks, Cond.instanceMethod yX7_asks, Cond.selects RX7 yX7_asks yX7_asks, Cond.code yX7_asks cX7_asks 5 none, Cond.methodLink RX7 156 yX7_inHeap, Cond.instanceMethod yX7_inHeap]
def wsX7_report_r5 : List Cond := [Cond.selects RX7 yX7_inHeap yX7_inHeap, Cond.code yX7_inHeap cX7_inHeap 4 (some .int), Cond.methodLink RX7 159 yX7_melted, Cond.instanceMethod yX7_melted, Cond.selects RX7 yX7_melted yX7_melted, Cond.code yX7_melted cX7_melted 6 (some .int), Cond.methodLink RX7 168 yX7_names, Cond.instanceMethod yX7_names, Cond.selects RX7 yX7_names yX7_names, Cond.code yX7_names cX7_names 3 none, Cond.fieldLink RX7 60 "FaultHeapsModel" "newName" "[I"]
def wsX7_report : List Cond := .code yX7_report cX7_report 4 (some .int) :: ((wsX7_report_r1 ++ (wsX7_report_r2 ++ (wsX7_report_r3 ++ (wsX7_report_r4 ++ wsX7_report_r5)))) ++ wsX70)
def wsX7_isReport : List Cond := .code yX7_isReport cX7_isReport 2 (some .boolean) :: ([.fieldLink RX7 86 "FaultHeapsModel" "reports" "I"] ++ wsX70)
def wsX7_heaps : List Cond := .code yX7_heaps cX7_heaps 3 (some .int) :: ([.fieldLink RX7 86 "FaultHeapsModel" "reports" "I", .fieldLink RX7 35 "FaultHeapsModel" "heapOf" "[I"] ++ wsX70)
def wsX7_resettle_r1 : List Cond := [Cond.fieldLink RX7 1 "FaultHeapsModel" "thrown" "I", Cond.fieldLink RX7 86 "FaultHeapsModel" "reports" "I", Cond.fieldLink RX7 35 "FaultHeapsModel" "heapOf" "[I", Cond.methodLink RX7 93 yX7_settles, Cond.instanceMethod yX7_settles, Cond.selects RX7 yX7_settles yX7_settles, Cond.initialized RX7, Cond.code yX7_settles cX7_settles 2 none, Cond.fieldLink RX7 136 "FaultHeapsModel" "bestBy" "I", Cond.fieldLink RX7 145 "FaultHeapsModel" "bestMelts" "Z", Cond.fieldLink RX7 142 "FaultHeapsModel" "bestTo" "I", Cond.fieldLink RX7 139 "FaultHeapsModel" "bestWho" "I", Cond.fieldLink RX7 171 "FaultHeapsModel" "changes" "I", Cond.methodLink RX7 162 yX7_findDistances, Cond.instanceMethod yX7_findDistances, Cond.selects RX7 yX7_findDistances yX7_findDistances, Cond.code yX7_findDistances cX7_findDistances 3 none, Cond.fieldLink RX7 47 "FaultHeapsModel" "distance" "[I", Cond.methodLink RX7 123 yX7_findCommon, Cond.instanceMethod yX7_findCommon, Cond.selects RX7 yX7_findCommon yX7_findCommon, Cond.code yX7_findCommon cX7_findCommon 2 none, Cond.fieldLink RX7 50 "FaultHeapsModel" "common" "[Z", Cond.methodLink RX7 99 yX7_isCommon]
def wsX7_resettle_r2 : List Cond := [Cond.instanceMethod yX7_isCommon, Cond.selects RX7 yX7_isCommon yX7_isCommon, Cond.code yX7_isCommon cX7_isCommon 4 (some .boolean), Cond.methodLink RX7 96 yX7_stands, Cond.instanceMethod yX7_stands, Cond.selects RX7 yX7_stands yX7_stands, Cond.code yX7_stands cX7_stands 5 (some .boolean), Cond.fieldLink RX7 26 "FaultHeapsModel" "sizes" "[I", Cond.fieldLink RX7 23 "FaultHeapsModel" "rows" "[I", Cond.methodLink RX7 126 yX7_turns, Cond.instanceMethod yX7_turns, Cond.selects RX7 yX7_turns yX7_turns, Cond.code yX7_turns cX7_turns 6 (some .int), Cond.fieldLink RX7 38 "FaultHeapsModel" "one" "[I", Cond.fieldLink RX7 106 "FaultHeapsModel" "oneMany" "I", Cond.fieldLink RX7 41 "FaultHeapsModel" "two" "[I", Cond.fieldLink RX7 109 "FaultHeapsModel" "twoMany" "I", Cond.fieldLink RX7 44 "FaultHeapsModel" "cost" "[I", Cond.methodLink RX7 102 yX7_withoutCommon, Cond.instanceMethod yX7_withoutCommon, Cond.selects RX7 yX7_withoutCommon yX7_withoutCommon, Cond.code yX7_withoutCommon cX7_withoutCommon 6 (some .int), Cond.methodLink RX7 112 yX7_alone, Cond.static yX7_alone]
def wsX7_resettle_r3 : List Cond := [Cond.code yX7_alone cX7_alone 1 (some .int), Cond.methodLink RX7 116 yX7_least, Cond.static yX7_least, Cond.code yX7_least cX7_least 2 (some .int), Cond.methodLink RX7 120 yX7_change, Cond.static yX7_change, Cond.code yX7_change cX7_change 2 (some .int), Cond.methodLink RX7 165 yX7_findBest, Cond.instanceMethod yX7_findBest, Cond.selects RX7 yX7_findBest yX7_findBest, Cond.code yX7_findBest cX7_findBest 3 none, Cond.methodLink RX7 149 yX7_moved, Cond.instanceMethod yX7_moved, Cond.selects RX7 yX7_moved yX7_moved, Cond.code yX7_moved cX7_moved 5 (some .int), Cond.methodLink RX7 133 yX7_gain, Cond.instanceMethod yX7_gain, Cond.selects RX7 yX7_gain yX7_gain, Cond.code yX7_gain cX7_gain 3 (some .int), Cond.methodLink RX7 129 yX7_pairCost, Cond.instanceMethod yX7_pairCost, Cond.selects RX7 yX7_pairCost yX7_pairCost, Cond.code yX7_pairCost cX7_pairCost 6 (some .int), Cond.fieldLink RX7 57 "FaultHeapsModel" "must" "[I"]
def wsX7_resettle_r4 : List Cond := [Cond.fieldLink RX7 54 "FaultHeapsModel" "mark" "I", Cond.methodLink RX7 152 yX7_asks, Cond.instanceMethod yX7_asks, Cond.selects RX7 yX7_asks yX7_asks, Cond.code yX7_asks cX7_asks 5 none, Cond.methodLink RX7 156 yX7_inHeap, Cond.instanceMethod yX7_inHeap, Cond.selects RX7 yX7_inHeap yX7_inHeap, Cond.code yX7_inHeap cX7_inHeap 4 (some .int), Cond.methodLink RX7 159 yX7_melted, Cond.instanceMethod yX7_melted, Cond.selects RX7 yX7_melted yX7_melted, Cond.code yX7_melted cX7_melted 6 (some .int), Cond.methodLink RX7 168 yX7_names, Cond.instanceMethod yX7_names, Cond.selects RX7 yX7_names yX7_names, Cond.code yX7_names cX7_names 3 none, Cond.fieldLink RX7 60 "FaultHeapsModel" "newName" "[I", Cond.methodLink RX7 174 yX7_heaps, Cond.instanceMethod yX7_heaps, Cond.selects RX7 yX7_heaps yX7_heaps, Cond.code yX7_heaps cX7_heaps 3 (some .int)]
def wsX7_resettle : List Cond := .code yX7_resettle cX7_resettle 2 (some .int) :: ((wsX7_resettle_r1 ++ (wsX7_resettle_r2 ++ (wsX7_resettle_r3 ++ wsX7_resettle_r4))) ++ wsX70)
def wsX7_areTwo : List Cond := .code yX7_areTwo cX7_areTwo 3 (some .boolean) :: ([.methodLink RX7 178 yX7_isReport, .instanceMethod yX7_isReport, .selects RX7 yX7_isReport yX7_isReport, .initialized RX7, .code yX7_isReport cX7_isReport 2 (some .boolean), .fieldLink RX7 86 "FaultHeapsModel" "reports" "I"] ++ wsX70)
def wsX7_tells_r1 : List Cond := [Cond.fieldLink RX7 57 "FaultHeapsModel" "must" "[I", Cond.methodLink RX7 93 yX7_settles, Cond.instanceMethod yX7_settles, Cond.selects RX7 yX7_settles yX7_settles, Cond.initialized RX7, Cond.code yX7_settles cX7_settles 2 none, Cond.fieldLink RX7 136 "FaultHeapsModel" "bestBy" "I", Cond.fieldLink RX7 86 "FaultHeapsModel" "reports" "I", Cond.fieldLink RX7 145 "FaultHeapsModel" "bestMelts" "Z", Cond.fieldLink RX7 35 "FaultHeapsModel" "heapOf" "[I", Cond.fieldLink RX7 142 "FaultHeapsModel" "bestTo" "I", Cond.fieldLink RX7 139 "FaultHeapsModel" "bestWho" "I", Cond.fieldLink RX7 171 "FaultHeapsModel" "changes" "I", Cond.methodLink RX7 162 yX7_findDistances, Cond.instanceMethod yX7_findDistances, Cond.selects RX7 yX7_findDistances yX7_findDistances, Cond.code yX7_findDistances cX7_findDistances 3 none, Cond.fieldLink RX7 47 "FaultHeapsModel" "distance" "[I", Cond.methodLink RX7 123 yX7_findCommon, Cond.instanceMethod yX7_findCommon, Cond.selects RX7 yX7_findCommon yX7_findCommon, Cond.code yX7_findCommon cX7_findCommon 2 none, Cond.fieldLink RX7 50 "FaultHeapsModel" "common" "[Z", Cond.methodLink RX7 99 yX7_isCommon]
def wsX7_tells_r2 : List Cond := [Cond.instanceMethod yX7_isCommon, Cond.selects RX7 yX7_isCommon yX7_isCommon, Cond.code yX7_isCommon cX7_isCommon 4 (some .boolean), Cond.methodLink RX7 96 yX7_stands, Cond.instanceMethod yX7_stands, Cond.selects RX7 yX7_stands yX7_stands, Cond.code yX7_stands cX7_stands 5 (some .boolean), Cond.fieldLink RX7 26 "FaultHeapsModel" "sizes" "[I", Cond.fieldLink RX7 23 "FaultHeapsModel" "rows" "[I", Cond.methodLink RX7 126 yX7_turns, Cond.instanceMethod yX7_turns, Cond.selects RX7 yX7_turns yX7_turns, Cond.code yX7_turns cX7_turns 6 (some .int), Cond.fieldLink RX7 38 "FaultHeapsModel" "one" "[I", Cond.fieldLink RX7 106 "FaultHeapsModel" "oneMany" "I", Cond.fieldLink RX7 41 "FaultHeapsModel" "two" "[I", Cond.fieldLink RX7 109 "FaultHeapsModel" "twoMany" "I", Cond.fieldLink RX7 44 "FaultHeapsModel" "cost" "[I", Cond.methodLink RX7 102 yX7_withoutCommon, Cond.instanceMethod yX7_withoutCommon, Cond.selects RX7 yX7_withoutCommon yX7_withoutCommon, Cond.code yX7_withoutCommon cX7_withoutCommon 6 (some .int), Cond.methodLink RX7 112 yX7_alone, Cond.static yX7_alone]
def wsX7_tells_r3 : List Cond := [Cond.code yX7_alone cX7_alone 1 (some .int), Cond.methodLink RX7 116 yX7_least, Cond.static yX7_least, Cond.code yX7_least cX7_least 2 (some .int), Cond.methodLink RX7 120 yX7_change, Cond.static yX7_change, Cond.code yX7_change cX7_change 2 (some .int), Cond.methodLink RX7 165 yX7_findBest, Cond.instanceMethod yX7_findBest, Cond.selects RX7 yX7_findBest yX7_findBest, Cond.code yX7_findBest cX7_findBest 3 none, Cond.methodLink RX7 149 yX7_moved, Cond.instanceMethod yX7_moved, Cond.selects RX7 yX7_moved yX7_moved, Cond.code yX7_moved cX7_moved 5 (some .int), Cond.methodLink RX7 133 yX7_gain, Cond.instanceMethod yX7_gain, Cond.selects RX7 yX7_gain yX7_gain, Cond.code yX7_gain cX7_gain 3 (some .int), Cond.methodLink RX7 129 yX7_pairCost, Cond.instanceMethod yX7_pairCost, Cond.selects RX7 yX7_pairCost yX7_pairCost, Cond.code yX7_pairCost cX7_pairCost 6 (some .int), Cond.fieldLink RX7 54 "FaultHeapsModel" "mark" "I"]
def wsX7_tells_r4 : List Cond := [Cond.methodLink RX7 152 yX7_asks, Cond.instanceMethod yX7_asks, Cond.selects RX7 yX7_asks yX7_asks, Cond.code yX7_asks cX7_asks 5 none, Cond.methodLink RX7 156 yX7_inHeap, Cond.instanceMethod yX7_inHeap, Cond.selects RX7 yX7_inHeap yX7_inHeap, Cond.code yX7_inHeap cX7_inHeap 4 (some .int), Cond.methodLink RX7 159 yX7_melted, Cond.instanceMethod yX7_melted, Cond.selects RX7 yX7_melted yX7_melted, Cond.code yX7_melted cX7_melted 6 (some .int), Cond.methodLink RX7 168 yX7_names, Cond.instanceMethod yX7_names, Cond.selects RX7 yX7_names yX7_names, Cond.code yX7_names cX7_names 3 none, Cond.fieldLink RX7 60 "FaultHeapsModel" "newName" "[I"]
def wsX7_tells : List Cond := .code yX7_tells cX7_tells 4 none :: ((wsX7_tells_r1 ++ (wsX7_tells_r2 ++ (wsX7_tells_r3 ++ wsX7_tells_r4))) ++ wsX70)
def wsX7_pair_r1 : List Cond := [Cond.fieldLink RX7 1 "FaultHeapsModel" "thrown" "I", Cond.methodLink RX7 181 yX7_areTwo, Cond.instanceMethod yX7_areTwo, Cond.selects RX7 yX7_areTwo yX7_areTwo, Cond.initialized RX7, Cond.code yX7_areTwo cX7_areTwo 3 (some .boolean), Cond.methodLink RX7 178 yX7_isReport, Cond.instanceMethod yX7_isReport, Cond.selects RX7 yX7_isReport yX7_isReport, Cond.code yX7_isReport cX7_isReport 2 (some .boolean), Cond.fieldLink RX7 86 "FaultHeapsModel" "reports" "I", Cond.methodLink RX7 184 yX7_tells, Cond.instanceMethod yX7_tells, Cond.selects RX7 yX7_tells yX7_tells, Cond.code yX7_tells cX7_tells 4 none, Cond.fieldLink RX7 57 "FaultHeapsModel" "must" "[I", Cond.methodLink RX7 93 yX7_settles, Cond.instanceMethod yX7_settles, Cond.selects RX7 yX7_settles yX7_settles, Cond.code yX7_settles cX7_settles 2 none, Cond.fieldLink RX7 136 "FaultHeapsModel" "bestBy" "I", Cond.fieldLink RX7 145 "FaultHeapsModel" "bestMelts" "Z", Cond.fieldLink RX7 35 "FaultHeapsModel" "heapOf" "[I", Cond.fieldLink RX7 142 "FaultHeapsModel" "bestTo" "I"]
def wsX7_pair_r2 : List Cond := [Cond.fieldLink RX7 139 "FaultHeapsModel" "bestWho" "I", Cond.fieldLink RX7 171 "FaultHeapsModel" "changes" "I", Cond.methodLink RX7 162 yX7_findDistances, Cond.instanceMethod yX7_findDistances, Cond.selects RX7 yX7_findDistances yX7_findDistances, Cond.code yX7_findDistances cX7_findDistances 3 none, Cond.fieldLink RX7 47 "FaultHeapsModel" "distance" "[I", Cond.methodLink RX7 123 yX7_findCommon, Cond.instanceMethod yX7_findCommon, Cond.selects RX7 yX7_findCommon yX7_findCommon, Cond.code yX7_findCommon cX7_findCommon 2 none, Cond.fieldLink RX7 50 "FaultHeapsModel" "common" "[Z", Cond.methodLink RX7 99 yX7_isCommon, Cond.instanceMethod yX7_isCommon, Cond.selects RX7 yX7_isCommon yX7_isCommon, Cond.code yX7_isCommon cX7_isCommon 4 (some .boolean), Cond.methodLink RX7 96 yX7_stands, Cond.instanceMethod yX7_stands, Cond.selects RX7 yX7_stands yX7_stands, Cond.code yX7_stands cX7_stands 5 (some .boolean), Cond.fieldLink RX7 26 "FaultHeapsModel" "sizes" "[I", Cond.fieldLink RX7 23 "FaultHeapsModel" "rows" "[I", Cond.methodLink RX7 126 yX7_turns, Cond.instanceMethod yX7_turns]
def wsX7_pair_r3 : List Cond := [Cond.selects RX7 yX7_turns yX7_turns, Cond.code yX7_turns cX7_turns 6 (some .int), Cond.fieldLink RX7 38 "FaultHeapsModel" "one" "[I", Cond.fieldLink RX7 106 "FaultHeapsModel" "oneMany" "I", Cond.fieldLink RX7 41 "FaultHeapsModel" "two" "[I", Cond.fieldLink RX7 109 "FaultHeapsModel" "twoMany" "I", Cond.fieldLink RX7 44 "FaultHeapsModel" "cost" "[I", Cond.methodLink RX7 102 yX7_withoutCommon, Cond.instanceMethod yX7_withoutCommon, Cond.selects RX7 yX7_withoutCommon yX7_withoutCommon, Cond.code yX7_withoutCommon cX7_withoutCommon 6 (some .int), Cond.methodLink RX7 112 yX7_alone, Cond.static yX7_alone, Cond.code yX7_alone cX7_alone 1 (some .int), Cond.methodLink RX7 116 yX7_least, Cond.static yX7_least, Cond.code yX7_least cX7_least 2 (some .int), Cond.methodLink RX7 120 yX7_change, Cond.static yX7_change, Cond.code yX7_change cX7_change 2 (some .int), Cond.methodLink RX7 165 yX7_findBest, Cond.instanceMethod yX7_findBest, Cond.selects RX7 yX7_findBest yX7_findBest, Cond.code yX7_findBest cX7_findBest 3 none]
def wsX7_pair_r4 : List Cond := [Cond.methodLink RX7 149 yX7_moved, Cond.instanceMethod yX7_moved, Cond.selects RX7 yX7_moved yX7_moved, Cond.code yX7_moved cX7_moved 5 (some .int), Cond.methodLink RX7 133 yX7_gain, Cond.instanceMethod yX7_gain, Cond.selects RX7 yX7_gain yX7_gain, Cond.code yX7_gain cX7_gain 3 (some .int), Cond.methodLink RX7 129 yX7_pairCost, Cond.instanceMethod yX7_pairCost, Cond.selects RX7 yX7_pairCost yX7_pairCost, Cond.code yX7_pairCost cX7_pairCost 6 (some .int), Cond.fieldLink RX7 54 "FaultHeapsModel" "mark" "I", Cond.methodLink RX7 152 yX7_asks, Cond.instanceMethod yX7_asks, Cond.selects RX7 yX7_asks yX7_asks, Cond.code yX7_asks cX7_asks 5 none, Cond.methodLink RX7 156 yX7_inHeap, Cond.instanceMethod yX7_inHeap, Cond.selects RX7 yX7_inHeap yX7_inHeap, Cond.code yX7_inHeap cX7_inHeap 4 (some .int), Cond.methodLink RX7 159 yX7_melted, Cond.instanceMethod yX7_melted, Cond.selects RX7 yX7_melted yX7_melted]
def wsX7_pair_r5 : List Cond := [Cond.code yX7_melted cX7_melted 6 (some .int), Cond.methodLink RX7 168 yX7_names, Cond.instanceMethod yX7_names, Cond.selects RX7 yX7_names yX7_names, Cond.code yX7_names cX7_names 3 none, Cond.fieldLink RX7 60 "FaultHeapsModel" "newName" "[I"]
def wsX7_pair : List Cond := .code yX7_pair cX7_pair 4 (some .boolean) :: ((wsX7_pair_r1 ++ (wsX7_pair_r2 ++ (wsX7_pair_r3 ++ (wsX7_pair_r4 ++ wsX7_pair_r5)))) ++ wsX70)
def wsX7_free_r1 : List Cond := [Cond.fieldLink RX7 1 "FaultHeapsModel" "thrown" "I", Cond.fieldLink RX7 57 "FaultHeapsModel" "must" "[I", Cond.methodLink RX7 181 yX7_areTwo, Cond.instanceMethod yX7_areTwo, Cond.selects RX7 yX7_areTwo yX7_areTwo, Cond.initialized RX7, Cond.code yX7_areTwo cX7_areTwo 3 (some .boolean), Cond.methodLink RX7 178 yX7_isReport, Cond.instanceMethod yX7_isReport, Cond.selects RX7 yX7_isReport yX7_isReport, Cond.code yX7_isReport cX7_isReport 2 (some .boolean), Cond.fieldLink RX7 86 "FaultHeapsModel" "reports" "I", Cond.methodLink RX7 184 yX7_tells, Cond.instanceMethod yX7_tells, Cond.selects RX7 yX7_tells yX7_tells, Cond.code yX7_tells cX7_tells 4 none, Cond.methodLink RX7 93 yX7_settles, Cond.instanceMethod yX7_settles, Cond.selects RX7 yX7_settles yX7_settles, Cond.code yX7_settles cX7_settles 2 none, Cond.fieldLink RX7 136 "FaultHeapsModel" "bestBy" "I", Cond.fieldLink RX7 145 "FaultHeapsModel" "bestMelts" "Z", Cond.fieldLink RX7 35 "FaultHeapsModel" "heapOf" "[I", Cond.fieldLink RX7 142 "FaultHeapsModel" "bestTo" "I"]
def wsX7_free_r2 : List Cond := [Cond.fieldLink RX7 139 "FaultHeapsModel" "bestWho" "I", Cond.fieldLink RX7 171 "FaultHeapsModel" "changes" "I", Cond.methodLink RX7 162 yX7_findDistances, Cond.instanceMethod yX7_findDistances, Cond.selects RX7 yX7_findDistances yX7_findDistances, Cond.code yX7_findDistances cX7_findDistances 3 none, Cond.fieldLink RX7 47 "FaultHeapsModel" "distance" "[I", Cond.methodLink RX7 123 yX7_findCommon, Cond.instanceMethod yX7_findCommon, Cond.selects RX7 yX7_findCommon yX7_findCommon, Cond.code yX7_findCommon cX7_findCommon 2 none, Cond.fieldLink RX7 50 "FaultHeapsModel" "common" "[Z", Cond.methodLink RX7 99 yX7_isCommon, Cond.instanceMethod yX7_isCommon, Cond.selects RX7 yX7_isCommon yX7_isCommon, Cond.code yX7_isCommon cX7_isCommon 4 (some .boolean), Cond.methodLink RX7 96 yX7_stands, Cond.instanceMethod yX7_stands, Cond.selects RX7 yX7_stands yX7_stands, Cond.code yX7_stands cX7_stands 5 (some .boolean), Cond.fieldLink RX7 26 "FaultHeapsModel" "sizes" "[I", Cond.fieldLink RX7 23 "FaultHeapsModel" "rows" "[I", Cond.methodLink RX7 126 yX7_turns, Cond.instanceMethod yX7_turns]
def wsX7_free_r3 : List Cond := [Cond.selects RX7 yX7_turns yX7_turns, Cond.code yX7_turns cX7_turns 6 (some .int), Cond.fieldLink RX7 38 "FaultHeapsModel" "one" "[I", Cond.fieldLink RX7 106 "FaultHeapsModel" "oneMany" "I", Cond.fieldLink RX7 41 "FaultHeapsModel" "two" "[I", Cond.fieldLink RX7 109 "FaultHeapsModel" "twoMany" "I", Cond.fieldLink RX7 44 "FaultHeapsModel" "cost" "[I", Cond.methodLink RX7 102 yX7_withoutCommon, Cond.instanceMethod yX7_withoutCommon, Cond.selects RX7 yX7_withoutCommon yX7_withoutCommon, Cond.code yX7_withoutCommon cX7_withoutCommon 6 (some .int), Cond.methodLink RX7 112 yX7_alone, Cond.static yX7_alone, Cond.code yX7_alone cX7_alone 1 (some .int), Cond.methodLink RX7 116 yX7_least, Cond.static yX7_least, Cond.code yX7_least cX7_least 2 (some .int), Cond.methodLink RX7 120 yX7_change, Cond.static yX7_change, Cond.code yX7_change cX7_change 2 (some .int), Cond.methodLink RX7 165 yX7_findBest, Cond.instanceMethod yX7_findBest, Cond.selects RX7 yX7_findBest yX7_findBest, Cond.code yX7_findBest cX7_findBest 3 none]
def wsX7_free_r4 : List Cond := [Cond.methodLink RX7 149 yX7_moved, Cond.instanceMethod yX7_moved, Cond.selects RX7 yX7_moved yX7_moved, Cond.code yX7_moved cX7_moved 5 (some .int), Cond.methodLink RX7 133 yX7_gain, Cond.instanceMethod yX7_gain, Cond.selects RX7 yX7_gain yX7_gain, Cond.code yX7_gain cX7_gain 3 (some .int), Cond.methodLink RX7 129 yX7_pairCost, Cond.instanceMethod yX7_pairCost, Cond.selects RX7 yX7_pairCost yX7_pairCost, Cond.code yX7_pairCost cX7_pairCost 6 (some .int), Cond.fieldLink RX7 54 "FaultHeapsModel" "mark" "I", Cond.methodLink RX7 152 yX7_asks, Cond.instanceMethod yX7_asks, Cond.selects RX7 yX7_asks yX7_asks, Cond.code yX7_asks cX7_asks 5 none, Cond.methodLink RX7 156 yX7_inHeap, Cond.instanceMethod yX7_inHeap, Cond.selects RX7 yX7_inHeap yX7_inHeap, Cond.code yX7_inHeap cX7_inHeap 4 (some .int), Cond.methodLink RX7 159 yX7_melted, Cond.instanceMethod yX7_melted, Cond.selects RX7 yX7_melted yX7_melted]
def wsX7_free_r5 : List Cond := [Cond.code yX7_melted cX7_melted 6 (some .int), Cond.methodLink RX7 168 yX7_names, Cond.instanceMethod yX7_names, Cond.selects RX7 yX7_names yX7_names, Cond.code yX7_names cX7_names 3 none, Cond.fieldLink RX7 60 "FaultHeapsModel" "newName" "[I"]
def wsX7_free : List Cond := .code yX7_free cX7_free 3 (some .boolean) :: ((wsX7_free_r1 ++ (wsX7_free_r2 ++ (wsX7_free_r3 ++ (wsX7_free_r4 ++ wsX7_free_r5)))) ++ wsX70)
def wsX7_mark_r1 : List Cond := [Cond.fieldLink RX7 1 "FaultHeapsModel" "thrown" "I", Cond.fieldLink RX7 54 "FaultHeapsModel" "mark" "I", Cond.methodLink RX7 93 yX7_settles, Cond.instanceMethod yX7_settles, Cond.selects RX7 yX7_settles yX7_settles, Cond.initialized RX7, Cond.code yX7_settles cX7_settles 2 none, Cond.fieldLink RX7 136 "FaultHeapsModel" "bestBy" "I", Cond.fieldLink RX7 86 "FaultHeapsModel" "reports" "I", Cond.fieldLink RX7 145 "FaultHeapsModel" "bestMelts" "Z", Cond.fieldLink RX7 35 "FaultHeapsModel" "heapOf" "[I", Cond.fieldLink RX7 142 "FaultHeapsModel" "bestTo" "I", Cond.fieldLink RX7 139 "FaultHeapsModel" "bestWho" "I", Cond.fieldLink RX7 171 "FaultHeapsModel" "changes" "I", Cond.methodLink RX7 162 yX7_findDistances, Cond.instanceMethod yX7_findDistances, Cond.selects RX7 yX7_findDistances yX7_findDistances, Cond.code yX7_findDistances cX7_findDistances 3 none, Cond.fieldLink RX7 47 "FaultHeapsModel" "distance" "[I", Cond.methodLink RX7 123 yX7_findCommon, Cond.instanceMethod yX7_findCommon, Cond.selects RX7 yX7_findCommon yX7_findCommon, Cond.code yX7_findCommon cX7_findCommon 2 none, Cond.fieldLink RX7 50 "FaultHeapsModel" "common" "[Z"]
def wsX7_mark_r2 : List Cond := [Cond.methodLink RX7 99 yX7_isCommon, Cond.instanceMethod yX7_isCommon, Cond.selects RX7 yX7_isCommon yX7_isCommon, Cond.code yX7_isCommon cX7_isCommon 4 (some .boolean), Cond.methodLink RX7 96 yX7_stands, Cond.instanceMethod yX7_stands, Cond.selects RX7 yX7_stands yX7_stands, Cond.code yX7_stands cX7_stands 5 (some .boolean), Cond.fieldLink RX7 26 "FaultHeapsModel" "sizes" "[I", Cond.fieldLink RX7 23 "FaultHeapsModel" "rows" "[I", Cond.methodLink RX7 126 yX7_turns, Cond.instanceMethod yX7_turns, Cond.selects RX7 yX7_turns yX7_turns, Cond.code yX7_turns cX7_turns 6 (some .int), Cond.fieldLink RX7 38 "FaultHeapsModel" "one" "[I", Cond.fieldLink RX7 106 "FaultHeapsModel" "oneMany" "I", Cond.fieldLink RX7 41 "FaultHeapsModel" "two" "[I", Cond.fieldLink RX7 109 "FaultHeapsModel" "twoMany" "I", Cond.fieldLink RX7 44 "FaultHeapsModel" "cost" "[I", Cond.methodLink RX7 102 yX7_withoutCommon, Cond.instanceMethod yX7_withoutCommon, Cond.selects RX7 yX7_withoutCommon yX7_withoutCommon, Cond.code yX7_withoutCommon cX7_withoutCommon 6 (some .int), Cond.methodLink RX7 112 yX7_alone]
def wsX7_mark_r3 : List Cond := [Cond.static yX7_alone, Cond.code yX7_alone cX7_alone 1 (some .int), Cond.methodLink RX7 116 yX7_least, Cond.static yX7_least, Cond.code yX7_least cX7_least 2 (some .int), Cond.methodLink RX7 120 yX7_change, Cond.static yX7_change, Cond.code yX7_change cX7_change 2 (some .int), Cond.methodLink RX7 165 yX7_findBest, Cond.instanceMethod yX7_findBest, Cond.selects RX7 yX7_findBest yX7_findBest, Cond.code yX7_findBest cX7_findBest 3 none, Cond.methodLink RX7 149 yX7_moved, Cond.instanceMethod yX7_moved, Cond.selects RX7 yX7_moved yX7_moved, Cond.code yX7_moved cX7_moved 5 (some .int), Cond.methodLink RX7 133 yX7_gain, Cond.instanceMethod yX7_gain, Cond.selects RX7 yX7_gain yX7_gain, Cond.code yX7_gain cX7_gain 3 (some .int), Cond.methodLink RX7 129 yX7_pairCost, Cond.instanceMethod yX7_pairCost, Cond.selects RX7 yX7_pairCost yX7_pairCost, Cond.code yX7_pairCost cX7_pairCost 6 (some .int)]
def wsX7_mark_r4 : List Cond := [Cond.fieldLink RX7 57 "FaultHeapsModel" "must" "[I", Cond.methodLink RX7 152 yX7_asks, Cond.instanceMethod yX7_asks, Cond.selects RX7 yX7_asks yX7_asks, Cond.code yX7_asks cX7_asks 5 none, Cond.methodLink RX7 156 yX7_inHeap, Cond.instanceMethod yX7_inHeap, Cond.selects RX7 yX7_inHeap yX7_inHeap, Cond.code yX7_inHeap cX7_inHeap 4 (some .int), Cond.methodLink RX7 159 yX7_melted, Cond.instanceMethod yX7_melted, Cond.selects RX7 yX7_melted yX7_melted, Cond.code yX7_melted cX7_melted 6 (some .int), Cond.methodLink RX7 168 yX7_names, Cond.instanceMethod yX7_names, Cond.selects RX7 yX7_names yX7_names, Cond.code yX7_names cX7_names 3 none, Cond.fieldLink RX7 60 "FaultHeapsModel" "newName" "[I"]
def wsX7_mark : List Cond := .code yX7_mark cX7_mark 2 (some .boolean) :: ((wsX7_mark_r1 ++ (wsX7_mark_r2 ++ (wsX7_mark_r3 ++ wsX7_mark_r4))) ++ wsX70)
def wsX7_distance : List Cond := .code yX7_distance cX7_distance 3 (some .int) :: ([.fieldLink RX7 1 "FaultHeapsModel" "thrown" "I", .fieldLink RX7 47 "FaultHeapsModel" "distance" "[I", .methodLink RX7 178 yX7_isReport, .instanceMethod yX7_isReport, .selects RX7 yX7_isReport yX7_isReport, .initialized RX7, .code yX7_isReport cX7_isReport 2 (some .boolean), .fieldLink RX7 86 "FaultHeapsModel" "reports" "I"] ++ wsX70)
def wsX7_heap : List Cond := .code yX7_heap cX7_heap 2 (some .int) :: ([.fieldLink RX7 1 "FaultHeapsModel" "thrown" "I", .fieldLink RX7 35 "FaultHeapsModel" "heapOf" "[I", .methodLink RX7 178 yX7_isReport, .instanceMethod yX7_isReport, .selects RX7 yX7_isReport yX7_isReport, .initialized RX7, .code yX7_isReport cX7_isReport 2 (some .boolean), .fieldLink RX7 86 "FaultHeapsModel" "reports" "I"] ++ wsX70)
def wsX7_cost : List Cond := .code yX7_cost cX7_cost 6 (some .int) :: ([.fieldLink RX7 1 "FaultHeapsModel" "thrown" "I", .fieldLink RX7 35 "FaultHeapsModel" "heapOf" "[I", .fieldLink RX7 86 "FaultHeapsModel" "reports" "I", .methodLink RX7 181 yX7_areTwo, .instanceMethod yX7_areTwo, .selects RX7 yX7_areTwo yX7_areTwo, .initialized RX7, .code yX7_areTwo cX7_areTwo 3 (some .boolean), .methodLink RX7 178 yX7_isReport, .instanceMethod yX7_isReport, .selects RX7 yX7_isReport yX7_isReport, .code yX7_isReport cX7_isReport 2 (some .boolean), .methodLink RX7 129 yX7_pairCost, .instanceMethod yX7_pairCost, .selects RX7 yX7_pairCost yX7_pairCost, .code yX7_pairCost cX7_pairCost 6 (some .int), .fieldLink RX7 47 "FaultHeapsModel" "distance" "[I", .fieldLink RX7 57 "FaultHeapsModel" "must" "[I", .fieldLink RX7 54 "FaultHeapsModel" "mark" "I"] ++ wsX70)
def wsX7_row : List Cond := .code yX7_row cX7_row 3 (some .int) :: ([.fieldLink RX7 1 "FaultHeapsModel" "thrown" "I", .fieldLink RX7 26 "FaultHeapsModel" "sizes" "[I", .fieldLink RX7 23 "FaultHeapsModel" "rows" "[I", .methodLink RX7 178 yX7_isReport, .instanceMethod yX7_isReport, .selects RX7 yX7_isReport yX7_isReport, .initialized RX7, .code yX7_isReport cX7_isReport 2 (some .boolean), .fieldLink RX7 86 "FaultHeapsModel" "reports" "I"] ++ wsX70)
def wsX7_common : List Cond := .code yX7_common cX7_common 2 (some .int) :: ([.fieldLink RX7 1 "FaultHeapsModel" "thrown" "I", .methodLink RX7 99 yX7_isCommon, .instanceMethod yX7_isCommon, .selects RX7 yX7_isCommon yX7_isCommon, .initialized RX7, .code yX7_isCommon cX7_isCommon 4 (some .boolean), .fieldLink RX7 86 "FaultHeapsModel" "reports" "I", .methodLink RX7 96 yX7_stands, .instanceMethod yX7_stands, .selects RX7 yX7_stands yX7_stands, .code yX7_stands cX7_stands 5 (some .boolean), .fieldLink RX7 26 "FaultHeapsModel" "sizes" "[I", .fieldLink RX7 23 "FaultHeapsModel" "rows" "[I"] ++ wsX70)
def wsX7_findShared : List Cond := .code yX7_findShared cX7_findShared 5 none :: ([.fieldLink RX7 188 "FaultHeapsModel" "shared" "I", .fieldLink RX7 86 "FaultHeapsModel" "reports" "I", .fieldLink RX7 35 "FaultHeapsModel" "heapOf" "[I", .fieldLink RX7 69 "FaultHeapsModel" "share" "[I", .methodLink RX7 96 yX7_stands, .instanceMethod yX7_stands, .selects RX7 yX7_stands yX7_stands, .initialized RX7, .code yX7_stands cX7_stands 5 (some .boolean), .fieldLink RX7 26 "FaultHeapsModel" "sizes" "[I", .fieldLink RX7 23 "FaultHeapsModel" "rows" "[I"] ++ wsX70)
def wsX7_isMark : List Cond := .code yX7_isMark cX7_isMark 7 (some .boolean) :: ([.fieldLink RX7 86 "FaultHeapsModel" "reports" "I", .fieldLink RX7 35 "FaultHeapsModel" "heapOf" "[I", .fieldLink RX7 66 "FaultHeapsModel" "draftSign" "[I", .methodLink RX7 96 yX7_stands, .instanceMethod yX7_stands, .selects RX7 yX7_stands yX7_stands, .initialized RX7, .code yX7_stands cX7_stands 5 (some .boolean), .fieldLink RX7 26 "FaultHeapsModel" "sizes" "[I", .fieldLink RX7 23 "FaultHeapsModel" "rows" "[I"] ++ wsX70)
def wsX7_seeks : List Cond := .code yX7_seeks cX7_seeks 6 (some .boolean) :: ([.fieldLink RX7 188 "FaultHeapsModel" "shared" "I", .fieldLink RX7 66 "FaultHeapsModel" "draftSign" "[I", .fieldLink RX7 69 "FaultHeapsModel" "share" "[I", .methodLink RX7 191 yX7_isMark, .instanceMethod yX7_isMark, .selects RX7 yX7_isMark yX7_isMark, .initialized RX7, .code yX7_isMark cX7_isMark 7 (some .boolean), .fieldLink RX7 86 "FaultHeapsModel" "reports" "I", .fieldLink RX7 35 "FaultHeapsModel" "heapOf" "[I", .methodLink RX7 96 yX7_stands, .instanceMethod yX7_stands, .selects RX7 yX7_stands yX7_stands, .code yX7_stands cX7_stands 5 (some .boolean), .fieldLink RX7 26 "FaultHeapsModel" "sizes" "[I", .fieldLink RX7 23 "FaultHeapsModel" "rows" "[I", .methodLink RX7 194 yX7_seeks, .instanceMethod yX7_seeks, .selects RX7 yX7_seeks yX7_seeks] ++ wsX70)
def wsX7_sign_r1 : List Cond := [Cond.fieldLink RX7 1 "FaultHeapsModel" "thrown" "I", Cond.fieldLink RX7 35 "FaultHeapsModel" "heapOf" "[I", Cond.fieldLink RX7 202 "FaultHeapsModel" "signs" "I", Cond.fieldLink RX7 63 "FaultHeapsModel" "sign" "[I", Cond.fieldLink RX7 66 "FaultHeapsModel" "draftSign" "[I", Cond.methodLink RX7 178 yX7_isReport, Cond.instanceMethod yX7_isReport, Cond.selects RX7 yX7_isReport yX7_isReport, Cond.initialized RX7, Cond.code yX7_isReport cX7_isReport 2 (some .boolean), Cond.fieldLink RX7 86 "FaultHeapsModel" "reports" "I", Cond.methodLink RX7 198 yX7_findShared, Cond.instanceMethod yX7_findShared, Cond.selects RX7 yX7_findShared yX7_findShared, Cond.code yX7_findShared cX7_findShared 5 none, Cond.fieldLink RX7 188 "FaultHeapsModel" "shared" "I", Cond.fieldLink RX7 69 "FaultHeapsModel" "share" "[I", Cond.methodLink RX7 96 yX7_stands, Cond.instanceMethod yX7_stands, Cond.selects RX7 yX7_stands yX7_stands, Cond.code yX7_stands cX7_stands 5 (some .boolean), Cond.fieldLink RX7 26 "FaultHeapsModel" "sizes" "[I", Cond.fieldLink RX7 23 "FaultHeapsModel" "rows" "[I", Cond.methodLink RX7 194 yX7_seeks]
def wsX7_sign_r2 : List Cond := [Cond.instanceMethod yX7_seeks, Cond.selects RX7 yX7_seeks yX7_seeks, Cond.code yX7_seeks cX7_seeks 6 (some .boolean), Cond.methodLink RX7 191 yX7_isMark, Cond.instanceMethod yX7_isMark, Cond.selects RX7 yX7_isMark yX7_isMark, Cond.code yX7_isMark cX7_isMark 7 (some .boolean)]
def wsX7_sign : List Cond := .code yX7_sign cX7_sign 4 (some .int) :: ((wsX7_sign_r1 ++ wsX7_sign_r2) ++ wsX70)
def wsX7_signed : List Cond := .code yX7_signed cX7_signed 2 (some .int) :: ([.fieldLink RX7 1 "FaultHeapsModel" "thrown" "I", .fieldLink RX7 202 "FaultHeapsModel" "signs" "I", .fieldLink RX7 63 "FaultHeapsModel" "sign" "[I"] ++ wsX70)
def wsX7_fix : List Cond := .code yX7_fix cX7_fix 3 (some .boolean) :: ([.fieldLink RX7 1 "FaultHeapsModel" "thrown" "I", .fieldLink RX7 32 "FaultHeapsModel" "fixedAt" "[I", .methodLink RX7 178 yX7_isReport, .instanceMethod yX7_isReport, .selects RX7 yX7_isReport yX7_isReport, .initialized RX7, .code yX7_isReport cX7_isReport 2 (some .boolean), .fieldLink RX7 86 "FaultHeapsModel" "reports" "I", .methodLink RX7 72 yX7_isVersion, .instanceMethod yX7_isVersion, .selects RX7 yX7_isVersion yX7_isVersion, .code yX7_isVersion cX7_isVersion 2 (some .boolean), .fieldLink RX7 13 "FaultHeapsModel" "versions" "I"] ++ wsX70)
def wsX7_cameBack : List Cond := .code yX7_cameBack cX7_cameBack 4 (some .boolean) :: ([.fieldLink RX7 86 "FaultHeapsModel" "reports" "I", .fieldLink RX7 35 "FaultHeapsModel" "heapOf" "[I", .fieldLink RX7 32 "FaultHeapsModel" "fixedAt" "[I", .fieldLink RX7 29 "FaultHeapsModel" "versionOf" "[I", .methodLink RX7 76 yX7_isBehind, .instanceMethod yX7_isBehind, .selects RX7 yX7_isBehind yX7_isBehind, .initialized RX7, .code yX7_isBehind cX7_isBehind 4 (some .boolean), .fieldLink RX7 16 "FaultHeapsModel" "madeFrom" "[I"] ++ wsX70)
def wsX7_look : List Cond := .code yX7_look cX7_look 3 (some .int) :: ([.fieldLink RX7 1 "FaultHeapsModel" "thrown" "I", .fieldLink RX7 29 "FaultHeapsModel" "versionOf" "[I", .fieldLink RX7 26 "FaultHeapsModel" "sizes" "[I", .fieldLink RX7 32 "FaultHeapsModel" "fixedAt" "[I", .fieldLink RX7 35 "FaultHeapsModel" "heapOf" "[I", .methodLink RX7 178 yX7_isReport, .instanceMethod yX7_isReport, .selects RX7 yX7_isReport yX7_isReport, .initialized RX7, .code yX7_isReport cX7_isReport 2 (some .boolean), .fieldLink RX7 86 "FaultHeapsModel" "reports" "I", .methodLink RX7 205 yX7_cameBack, .instanceMethod yX7_cameBack, .selects RX7 yX7_cameBack yX7_cameBack, .code yX7_cameBack cX7_cameBack 4 (some .boolean), .methodLink RX7 76 yX7_isBehind, .instanceMethod yX7_isBehind, .selects RX7 yX7_isBehind yX7_isBehind, .code yX7_isBehind cX7_isBehind 4 (some .boolean), .fieldLink RX7 16 "FaultHeapsModel" "madeFrom" "[I", .methodLink RX7 156 yX7_inHeap, .instanceMethod yX7_inHeap, .selects RX7 yX7_inHeap yX7_inHeap, .code yX7_inHeap cX7_inHeap 4 (some .int)] ++ wsX70)
def wsX7_count_r1 : List Cond := [Cond.fieldLink RX7 1 "FaultHeapsModel" "thrown" "I", Cond.fieldLink RX7 86 "FaultHeapsModel" "reports" "I", Cond.fieldLink RX7 13 "FaultHeapsModel" "versions" "I", Cond.fieldLink RX7 54 "FaultHeapsModel" "mark" "I", Cond.fieldLink RX7 80 "FaultHeapsModel" "told" "I", Cond.fieldLink RX7 171 "FaultHeapsModel" "changes" "I", Cond.methodLink RX7 174 yX7_heaps, Cond.instanceMethod yX7_heaps, Cond.selects RX7 yX7_heaps yX7_heaps, Cond.initialized RX7, Cond.code yX7_heaps cX7_heaps 3 (some .int), Cond.fieldLink RX7 35 "FaultHeapsModel" "heapOf" "[I", Cond.methodLink RX7 99 yX7_isCommon, Cond.instanceMethod yX7_isCommon, Cond.selects RX7 yX7_isCommon yX7_isCommon, Cond.code yX7_isCommon cX7_isCommon 4 (some .boolean), Cond.methodLink RX7 96 yX7_stands, Cond.instanceMethod yX7_stands, Cond.selects RX7 yX7_stands yX7_stands, Cond.code yX7_stands cX7_stands 5 (some .boolean), Cond.fieldLink RX7 26 "FaultHeapsModel" "sizes" "[I", Cond.fieldLink RX7 23 "FaultHeapsModel" "rows" "[I", Cond.methodLink RX7 205 yX7_cameBack, Cond.instanceMethod yX7_cameBack]
def wsX7_count_r2 : List Cond := [Cond.selects RX7 yX7_cameBack yX7_cameBack, Cond.code yX7_cameBack cX7_cameBack 4 (some .boolean), Cond.fieldLink RX7 32 "FaultHeapsModel" "fixedAt" "[I", Cond.fieldLink RX7 29 "FaultHeapsModel" "versionOf" "[I", Cond.methodLink RX7 76 yX7_isBehind, Cond.instanceMethod yX7_isBehind, Cond.selects RX7 yX7_isBehind yX7_isBehind, Cond.code yX7_isBehind cX7_isBehind 4 (some .boolean), Cond.fieldLink RX7 16 "FaultHeapsModel" "madeFrom" "[I"]
def wsX7_count : List Cond := .code yX7_count cX7_count 4 (some .int) :: ((wsX7_count_r1 ++ wsX7_count_r2) ++ wsX70)
def wsJ9_max_7cf53 : List Cond := .code yJ9_max_7cf53 cJ9_max_7cf53 2 (some .int) :: ([])
def wsJ9_min_7cf53 : List Cond := .code yJ9_min_7cf53 cJ9_min_7cf53 2 (some .int) :: ([])
def wsL_look_r1 : List Cond := [Cond.classLink RL 13 "java/util/NoSuchElementException", Cond.methodLink RL 7 yX6_look, Cond.instanceMethod yX6_look, Cond.selects RX6 yX6_look yX6_look, Cond.initialized RX6, Cond.code yX6_look cX6_look 3 (some .int), Cond.classLink RX6 151 "java/util/NoSuchElementException", Cond.initialized "java/util/NoSuchElementException", Cond.fieldLink RX6 26 "FaultHeaps" "reports" "LFaultHeaps$Reports;", Cond.fieldLink RX6 40 "FaultHeaps" "heaps" "LFaultHeaps$Heaps;", Cond.methodLink RX6 111 yX3_has, Cond.instanceMethod yX3_has, Cond.selects RX3 yX3_has yX3_has, Cond.initialized RX3, Cond.code yX3_has cX3_has 2 (some .boolean), Cond.fieldLink RX3 30 "FaultHeaps$Reports" "number" "I", Cond.methodLink RX6 158 yX3_versionOf, Cond.instanceMethod yX3_versionOf, Cond.selects RX3 yX3_versionOf yX3_versionOf, Cond.code yX3_versionOf cX3_versionOf 2 (some .int), Cond.fieldLink RX3 20 "FaultHeaps$Reports" "madeIn" "[I", Cond.methodLink RX6 161 yX3_lengthOf, Cond.instanceMethod yX3_lengthOf, Cond.selects RX3 yX3_lengthOf yX3_lengthOf]
def wsL_look_r2 : List Cond := [Cond.code yX3_lengthOf cX3_lengthOf 2 (some .int), Cond.fieldLink RX3 16 "FaultHeaps$Reports" "lengths" "[I", Cond.methodLink RX6 164 yX3_fixedAt, Cond.instanceMethod yX3_fixedAt, Cond.selects RX3 yX3_fixedAt yX3_fixedAt, Cond.code yX3_fixedAt cX3_fixedAt 2 (some .int), Cond.fieldLink RX3 23 "FaultHeaps$Reports" "fixedIn" "[I", Cond.methodLink RX6 167 yX6_cameBack, Cond.instanceMethod yX6_cameBack, Cond.selects RX6 yX6_cameBack yX6_cameBack, Cond.code yX6_cameBack cX6_cameBack 5 (some .boolean), Cond.fieldLink RX6 19 "FaultHeaps" "versions" "LFaultHeaps$Versions;", Cond.methodLink RX6 178 yX3_howMany, Cond.instanceMethod yX3_howMany, Cond.selects RX3 yX3_howMany yX3_howMany, Cond.code yX3_howMany cX3_howMany 1 (some .int), Cond.methodLink RX6 193 yX1_areTogether, Cond.instanceMethod yX1_areTogether, Cond.selects RX1 yX1_areTogether yX1_areTogether, Cond.initialized RX1, Cond.code yX1_areTogether cX1_areTogether 3 (some .boolean), Cond.fieldLink RX1 16 "FaultHeaps$Heaps" "heapOf" "[I", Cond.methodLink RX6 175 yX5_isOrIsBehind, Cond.instanceMethod yX5_isOrIsBehind]
def wsL_look_r3 : List Cond := [Cond.selects RX5 yX5_isOrIsBehind yX5_isOrIsBehind, Cond.initialized RX5, Cond.code yX5_isOrIsBehind cX5_isOrIsBehind 3 (some .boolean), Cond.fieldLink RX5 9 "FaultHeaps$Versions" "lines" "[I", Cond.methodLink RX6 170 yX1_sizeBeside, Cond.instanceMethod yX1_sizeBeside, Cond.selects RX1 yX1_sizeBeside yX1_sizeBeside, Cond.code yX1_sizeBeside cX1_sizeBeside 2 (some .int), Cond.fieldLink RX1 23 "FaultHeaps$Heaps" "sizes" "[I"]
def wsL_look : List Cond := .codeWith yL_look cL_look 5 (some .int) [(0, 10, 13, 13)] :: ((wsL_look_r1 ++ (wsL_look_r2 ++ wsL_look_r3)) ++ wsX60 ++ wsX30 ++ wsX10 ++ wsX50 ++ (vx_atS RX6 155 "java/util/NoSuchElementException" ["java/lang/RuntimeException", "java/lang/Exception"]).filter goodWord)
def wsL_law0_r1 : List Cond := [Cond.classLink RL 8 RX6, Cond.instantiable RX6 6, Cond.initialized RX6, Cond.classLink RL 16 RX7, Cond.instantiable RX7 31, Cond.initialized RX7, Cond.arrayClass .long, Cond.methodLink RL 15 yX6_init, Cond.instanceMethod yX6_init, Cond.code yX6_init cX6_init 1 none, Cond.methodLink RX6 1 objectInit, Cond.instanceMethod objectInit, Cond.code objectInit ⟨#[0xb1]⟩ 1 none, Cond.classLink RX6 7 RX4, Cond.instantiable RX4 2, Cond.initialized RX4, Cond.fieldLink RX6 10 "FaultHeaps" "told" "LFaultHeaps$ToldRow;", Cond.classLink RX6 16 RX5, Cond.instantiable RX5 2, Cond.initialized RX5, Cond.fieldLink RX6 19 "FaultHeaps" "versions" "LFaultHeaps$Versions;", Cond.classLink RX6 23 RX3, Cond.instantiable RX3 6, Cond.initialized RX3]
def wsL_law0_r2 : List Cond := [Cond.fieldLink RX6 26 "FaultHeaps" "reports" "LFaultHeaps$Reports;", Cond.classLink RX6 30 RX0, Cond.instantiable RX0 5, Cond.initialized RX0, Cond.fieldLink RX6 33 "FaultHeaps" "distances" "LFaultHeaps$Distances;", Cond.classLink RX6 37 RX1, Cond.instantiable RX1 15, Cond.initialized RX1, Cond.fieldLink RX6 40 "FaultHeaps" "heaps" "LFaultHeaps$Heaps;", Cond.classLink RX6 44 RX2, Cond.instantiable RX2 5, Cond.initialized RX2, Cond.fieldLink RX6 47 "FaultHeaps" "marks" "LFaultHeaps$Marks;", Cond.instanceMethod yX4_init, Cond.code yX4_init cX4_init 1 none, Cond.methodLink RX4 3 objectInit, Cond.arrayClass .int, Cond.fieldLink RX4 9 "FaultHeaps$ToldRow" "frames" "[I", Cond.fieldLink RX4 15 "FaultHeaps$ToldRow" "length" "I", Cond.methodLink RX6 18 yX5_init, Cond.instanceMethod yX5_init, Cond.code yX5_init cX5_init 1 none, Cond.methodLink RX5 3 objectInit, Cond.fieldLink RX5 9 "FaultHeaps$Versions" "lines" "[I"]
def wsL_law0_r3 : List Cond := [Cond.fieldLink RX5 15 "FaultHeaps$Versions" "number" "I", Cond.instanceMethod yX3_init, Cond.code yX3_init cX3_init 1 none, Cond.methodLink RX3 3 objectInit, Cond.classLink RX3 9 "[[I", Cond.fieldLink RX3 11 "FaultHeaps$Reports" "rows" "[[I", Cond.fieldLink RX3 16 "FaultHeaps$Reports" "lengths" "[I", Cond.fieldLink RX3 20 "FaultHeaps$Reports" "madeIn" "[I", Cond.fieldLink RX3 23 "FaultHeaps$Reports" "fixedIn" "[I", Cond.fieldLink RX3 26 "FaultHeaps$Reports" "holders" "[J", Cond.fieldLink RX3 30 "FaultHeaps$Reports" "number" "I", Cond.methodLink RX6 32 yX0_init, Cond.instanceMethod yX0_init, Cond.code yX0_init cX0_init 1 none, Cond.methodLink RX0 3 objectInit, Cond.classLink RX0 9 "[[I", Cond.fieldLink RX0 11 "FaultHeaps$Distances" "bare" "[[I", Cond.fieldLink RX0 16 "FaultHeaps$Distances" "bareLengths" "[I", Cond.arrayClass .boolean, Cond.fieldLink RX0 20 "FaultHeaps$Distances" "isOther" "[Z", Cond.fieldLink RX0 24 "FaultHeaps$Distances" "known" "[[I", Cond.fieldLink RX0 27 "FaultHeaps$Distances" "least" "[[I", Cond.methodLink RX0 30 yJ7_fill_53178, Cond.static yJ7_fill_53178]
def wsL_law0_r4 : List Cond := [Cond.initialized RJ7, Cond.code yJ7_fill_53178 cJ7_fill_53178 4 none, Cond.instanceMethod yX1_init, Cond.code yX1_init cX1_init 1 none, Cond.methodLink RX1 3 objectInit, Cond.classLink RX1 9 "[[I", Cond.fieldLink RX1 11 "FaultHeaps$Heaps" "wishes" "[[I", Cond.fieldLink RX1 16 "FaultHeaps$Heaps" "heapOf" "[I", Cond.fieldLink RX1 20 "FaultHeaps$Heaps" "leastIn" "[I", Cond.fieldLink RX1 23 "FaultHeaps$Heaps" "sizes" "[I", Cond.fieldLink RX1 26 "FaultHeaps$Heaps" "newNumbers" "[I", Cond.fieldLink RX1 29 "FaultHeaps$Heaps" "joining" "[[I", Cond.fieldLink RX1 32 "FaultHeaps$Heaps" "melting" "[[I", Cond.fieldLink RX1 35 "FaultHeaps$Heaps" "reportsNumber" "I", Cond.fieldLink RX1 39 "FaultHeaps$Heaps" "heapsNumber" "I", Cond.fieldLink RX1 42 "FaultHeaps$Heaps" "limit" "I", Cond.fieldLink RX1 45 "FaultHeaps$Heaps" "changes" "I", Cond.fieldLink RX1 48 "FaultHeaps$Heaps" "bestAdded" "I", Cond.fieldLink RX1 51 "FaultHeaps$Heaps" "bestReport" "I", Cond.fieldLink RX1 54 "FaultHeaps$Heaps" "bestMelted" "I", Cond.fieldLink RX1 57 "FaultHeaps$Heaps" "bestInto" "I", Cond.instanceMethod yX2_init, Cond.code yX2_init cX2_init 1 none, Cond.methodLink RX2 3 objectInit]
def wsL_law0_r5 : List Cond := [Cond.fieldLink RX2 9 "FaultHeaps$Marks" "shared" "[I", Cond.fieldLink RX2 15 "FaultHeaps$Marks" "holders" "[J", Cond.fieldLink RX2 19 "FaultHeaps$Marks" "sharedNumber" "I", Cond.fieldLink RX2 23 "FaultHeaps$Marks" "latest" "[I", Cond.fieldLink RX2 26 "FaultHeaps$Marks" "latestLength" "I", Cond.methodLink RL 18 yX7_init, Cond.instanceMethod yX7_init, Cond.code yX7_init cX7_init 1 none, Cond.methodLink RX7 7 objectInit, Cond.fieldLink RX7 13 "FaultHeapsModel" "versions" "I", Cond.fieldLink RX7 16 "FaultHeapsModel" "madeFrom" "[I", Cond.fieldLink RX7 20 "FaultHeapsModel" "draft" "[I", Cond.fieldLink RX7 23 "FaultHeapsModel" "rows" "[I", Cond.fieldLink RX7 26 "FaultHeapsModel" "sizes" "[I", Cond.fieldLink RX7 29 "FaultHeapsModel" "versionOf" "[I", Cond.fieldLink RX7 32 "FaultHeapsModel" "fixedAt" "[I", Cond.fieldLink RX7 35 "FaultHeapsModel" "heapOf" "[I", Cond.fieldLink RX7 38 "FaultHeapsModel" "one" "[I", Cond.fieldLink RX7 41 "FaultHeapsModel" "two" "[I", Cond.fieldLink RX7 44 "FaultHeapsModel" "cost" "[I", Cond.fieldLink RX7 47 "FaultHeapsModel" "distance" "[I", Cond.fieldLink RX7 50 "FaultHeapsModel" "common" "[Z", Cond.fieldLink RX7 54 "FaultHeapsModel" "mark" "I", Cond.fieldLink RX7 57 "FaultHeapsModel" "must" "[I"]
def wsL_law0_r6 : List Cond := [Cond.fieldLink RX7 60 "FaultHeapsModel" "newName" "[I", Cond.fieldLink RX7 63 "FaultHeapsModel" "sign" "[I", Cond.fieldLink RX7 66 "FaultHeapsModel" "draftSign" "[I", Cond.fieldLink RX7 69 "FaultHeapsModel" "share" "[I", Cond.methodLink RL 19 yX6_frame, Cond.instanceMethod yX6_frame, Cond.selects RX6 yX6_frame yX6_frame, Cond.code yX6_frame cX6_frame 2 (some .int), Cond.methodLink RX6 51 yX4_put, Cond.instanceMethod yX4_put, Cond.selects RX4 yX4_put yX4_put, Cond.code yX4_put cX4_put 2 (some .int), Cond.methodLink RL 23 yX7_frame, Cond.instanceMethod yX7_frame, Cond.selects RX7 yX7_frame yX7_frame, Cond.code yX7_frame cX7_frame 2 (some .int), Cond.fieldLink RX7 1 "FaultHeapsModel" "thrown" "I", Cond.fieldLink RX7 80 "FaultHeapsModel" "told" "I", Cond.methodLink RL 24 yX6_version, Cond.instanceMethod yX6_version, Cond.selects RX6 yX6_version yX6_version, Cond.code yX6_version cX6_version 2 (some .int), Cond.methodLink RX6 55 yX5_make, Cond.instanceMethod yX5_make]
def wsL_law0_r7 : List Cond := [Cond.selects RX5 yX5_make yX5_make, Cond.code yX5_make cX5_make 3 (some .int), Cond.methodLink RX5 19 yX5_has, Cond.instanceMethod yX5_has, Cond.selects RX5 yX5_has yX5_has, Cond.code yX5_has cX5_has 2 (some .boolean), Cond.methodLink RL 27 yX7_version, Cond.instanceMethod yX7_version, Cond.selects RX7 yX7_version yX7_version, Cond.code yX7_version cX7_version 2 (some .int), Cond.methodLink RX7 72 yX7_isVersion, Cond.instanceMethod yX7_isVersion, Cond.selects RX7 yX7_isVersion yX7_isVersion, Cond.code yX7_isVersion cX7_isVersion 2 (some .boolean), Cond.methodLink RL 28 yX6_report, Cond.instanceMethod yX6_report, Cond.selects RX6 yX6_report yX6_report, Cond.code yX6_report cX6_report 3 (some .int), Cond.methodLink RX6 58 yX4_isEmpty, Cond.instanceMethod yX4_isEmpty, Cond.selects RX4 yX4_isEmpty yX4_isEmpty, Cond.code yX4_isEmpty cX4_isEmpty 1 (some .boolean), Cond.methodLink RX6 62 yX5_has, Cond.methodLink RX6 66 yX3_isFull]
def wsL_law0_r8 : List Cond := [Cond.instanceMethod yX3_isFull, Cond.selects RX3 yX3_isFull yX3_isFull, Cond.code yX3_isFull cX3_isFull 1 (some .boolean), Cond.methodLink RX6 69 yX4_fold, Cond.instanceMethod yX4_fold, Cond.selects RX4 yX4_fold yX4_fold, Cond.code yX4_fold cX4_fold 2 none, Cond.methodLink RX4 19 yX4_foldOnce, Cond.instanceMethod yX4_foldOnce, Cond.selects RX4 yX4_foldOnce yX4_foldOnce, Cond.code yX4_foldOnce cX4_foldOnce 3 (some .boolean), Cond.methodLink RX4 23 yX4_standsTwice, Cond.instanceMethod yX4_standsTwice, Cond.selects RX4 yX4_standsTwice yX4_standsTwice, Cond.code yX4_standsTwice cX4_standsTwice 4 (some .boolean), Cond.methodLink RX4 27 yX4_cut, Cond.instanceMethod yX4_cut, Cond.selects RX4 yX4_cut yX4_cut, Cond.code yX4_cut cX4_cut 4 none, Cond.methodLink RX6 72 yX3_add, Cond.instanceMethod yX3_add, Cond.selects RX3 yX3_add yX3_add, Cond.code yX3_add cX3_add 6 (some .int), Cond.methodLink RX3 38 yX4_howMany]
def wsL_law0_r9 : List Cond := [Cond.instanceMethod yX4_howMany, Cond.selects RX4 yX4_howMany yX4_howMany, Cond.code yX4_howMany cX4_howMany 1 (some .int), Cond.methodLink RX3 44 yX4_at, Cond.instanceMethod yX4_at, Cond.selects RX4 yX4_at yX4_at, Cond.code yX4_at cX4_at 2 (some .int), Cond.methodLink RX6 76 yX4_clear, Cond.instanceMethod yX4_clear, Cond.selects RX4 yX4_clear yX4_clear, Cond.code yX4_clear cX4_clear 1 none, Cond.methodLink RX6 79 yX0_renew, Cond.instanceMethod yX0_renew, Cond.selects RX0 yX0_renew yX0_renew, Cond.code yX0_renew cX0_renew 6 none, Cond.methodLink RX0 36 yX3_howMany, Cond.instanceMethod yX3_howMany, Cond.selects RX3 yX3_howMany yX3_howMany, Cond.code yX3_howMany cX3_howMany 1 (some .int), Cond.methodLink RX0 42 yX0_strip, Cond.instanceMethod yX0_strip, Cond.selects RX0 yX0_strip yX0_strip, Cond.code yX0_strip cX0_strip 8 (some .boolean), Cond.methodLink RX0 50 yX3_lengthOf]
def wsL_law0_r10 : List Cond := [Cond.instanceMethod yX3_lengthOf, Cond.selects RX3 yX3_lengthOf yX3_lengthOf, Cond.code yX3_lengthOf cX3_lengthOf 2 (some .int), Cond.methodLink RX0 54 yX3_frameAt, Cond.instanceMethod yX3_frameAt, Cond.selects RX3 yX3_frameAt yX3_frameAt, Cond.code yX3_frameAt cX3_frameAt 3 (some .int), Cond.methodLink RX0 57 yX3_isCommon, Cond.instanceMethod yX3_isCommon, Cond.selects RX3 yX3_isCommon yX3_isCommon, Cond.code yX3_isCommon cX3_isCommon 2 (some .boolean), Cond.methodLink RX3 48 yJ13_bitCount_95d88, Cond.static yJ13_bitCount_95d88, Cond.initialized RJ13, Cond.code yJ13_bitCount_95d88 cJ13_bitCount_95d88 2 (some .int), Cond.constantLong RJ13 314 (6148914691236517205), Cond.constantLong RJ13 316 (3689348814741910323), Cond.constantLong RJ13 318 (1085102592571150095), Cond.methodLink RX0 46 yX0_measure, Cond.instanceMethod yX0_measure, Cond.selects RX0 yX0_measure yX0_measure, Cond.code yX0_measure cX0_measure 12 (some .int), Cond.methodLink RX0 67 Lib.Math.min.name, Cond.static Lib.Math.min.name]
def wsL_law0_r11 : List Cond := [Cond.initialized "java/lang/Math", Cond.code Lib.Math.min.name Lib.Math.min.code 2 (some .int), Cond.methodLink RX0 61 yX0_costOfOne, Cond.static yX0_costOfOne, Cond.code yX0_costOfOne cX0_costOfOne 1 (some .int), Cond.methodLink RX0 64 yX0_costOfChange, Cond.static yX0_costOfChange, Cond.code yX0_costOfChange cX0_costOfChange 2 (some .int), Cond.methodLink RX6 83 yX1_addAlone, Cond.instanceMethod yX1_addAlone, Cond.selects RX1 yX1_addAlone yX1_addAlone, Cond.code yX1_addAlone cX1_addAlone 1 none, Cond.methodLink RX1 79 yX1_numberAnew, Cond.instanceMethod yX1_numberAnew, Cond.selects RX1 yX1_numberAnew yX1_numberAnew, Cond.code yX1_numberAnew cX1_numberAnew 3 none, Cond.methodLink RX1 96 yJ7_fill_53178, Cond.methodLink RX6 86 yX1_settle, Cond.instanceMethod yX1_settle, Cond.selects RX1 yX1_settle yX1_settle, Cond.code yX1_settle cX1_settle 3 none, Cond.constant RX1 82 (1000000), Cond.methodLink RX1 83 yX1_weighJoining, Cond.instanceMethod yX1_weighJoining]
def wsL_law0_r12 : List Cond := [Cond.selects RX1 yX1_weighJoining yX1_weighJoining, Cond.code yX1_weighJoining cX1_weighJoining 4 none, Cond.methodLink RX1 64 yX0_between, Cond.instanceMethod yX0_between, Cond.selects RX0 yX0_between yX0_between, Cond.code yX0_between cX0_between 3 (some .int), Cond.methodLink RX1 87 yX1_weighMelting, Cond.instanceMethod yX1_weighMelting, Cond.selects RX1 yX1_weighMelting yX1_weighMelting, Cond.code yX1_weighMelting cX1_weighMelting 3 none, Cond.methodLink RX1 90 yX1_findBest, Cond.instanceMethod yX1_findBest, Cond.selects RX1 yX1_findBest yX1_findBest, Cond.code yX1_findBest cX1_findBest 3 none, Cond.methodLink RX1 102 yX1_findBestMove, Cond.instanceMethod yX1_findBestMove, Cond.selects RX1 yX1_findBestMove yX1_findBestMove, Cond.code yX1_findBestMove cX1_findBestMove 5 none, Cond.methodLink RX1 106 yX1_weighMove, Cond.instanceMethod yX1_weighMove, Cond.selects RX1 yX1_weighMove yX1_weighMove, Cond.code yX1_weighMove cX1_weighMove 4 none, Cond.methodLink RX1 93 yX1_doBest, Cond.instanceMethod yX1_doBest]
def wsL_law0_r13 : List Cond := [Cond.selects RX1 yX1_doBest yX1_doBest, Cond.code yX1_doBest cX1_doBest 2 none, Cond.methodLink RL 31 yX7_report, Cond.instanceMethod yX7_report, Cond.selects RX7 yX7_report yX7_report, Cond.code yX7_report cX7_report 4 (some .int), Cond.fieldLink RX7 86 "FaultHeapsModel" "reports" "I", Cond.methodLink RX7 89 yX7_folds, Cond.instanceMethod yX7_folds, Cond.selects RX7 yX7_folds yX7_folds, Cond.code yX7_folds cX7_folds 4 (some .boolean), Cond.methodLink RX7 83 yX7_isTwice, Cond.instanceMethod yX7_isTwice, Cond.selects RX7 yX7_isTwice yX7_isTwice, Cond.code yX7_isTwice cX7_isTwice 5 (some .boolean), Cond.methodLink RX7 93 yX7_settles, Cond.instanceMethod yX7_settles, Cond.selects RX7 yX7_settles yX7_settles, Cond.code yX7_settles cX7_settles 2 none, Cond.fieldLink RX7 136 "FaultHeapsModel" "bestBy" "I", Cond.fieldLink RX7 145 "FaultHeapsModel" "bestMelts" "Z", Cond.fieldLink RX7 142 "FaultHeapsModel" "bestTo" "I", Cond.fieldLink RX7 139 "FaultHeapsModel" "bestWho" "I", Cond.fieldLink RX7 171 "FaultHeapsModel" "changes" "I"]
def wsL_law0_r14 : List Cond := [Cond.methodLink RX7 162 yX7_findDistances, Cond.instanceMethod yX7_findDistances, Cond.selects RX7 yX7_findDistances yX7_findDistances, Cond.code yX7_findDistances cX7_findDistances 3 none, Cond.methodLink RX7 123 yX7_findCommon, Cond.instanceMethod yX7_findCommon, Cond.selects RX7 yX7_findCommon yX7_findCommon, Cond.code yX7_findCommon cX7_findCommon 2 none, Cond.methodLink RX7 99 yX7_isCommon, Cond.instanceMethod yX7_isCommon, Cond.selects RX7 yX7_isCommon yX7_isCommon, Cond.code yX7_isCommon cX7_isCommon 4 (some .boolean), Cond.methodLink RX7 96 yX7_stands, Cond.instanceMethod yX7_stands, Cond.selects RX7 yX7_stands yX7_stands, Cond.code yX7_stands cX7_stands 5 (some .boolean), Cond.methodLink RX7 126 yX7_turns, Cond.instanceMethod yX7_turns, Cond.selects RX7 yX7_turns yX7_turns, Cond.code yX7_turns cX7_turns 6 (some .int), Cond.fieldLink RX7 106 "FaultHeapsModel" "oneMany" "I", Cond.fieldLink RX7 109 "FaultHeapsModel" "twoMany" "I", Cond.methodLink RX7 102 yX7_withoutCommon, Cond.instanceMethod yX7_withoutCommon]
def wsL_law0_r15 : List Cond := [Cond.selects RX7 yX7_withoutCommon yX7_withoutCommon, Cond.code yX7_withoutCommon cX7_withoutCommon 6 (some .int), Cond.methodLink RX7 112 yX7_alone, Cond.static yX7_alone, Cond.code yX7_alone cX7_alone 1 (some .int), Cond.methodLink RX7 116 yX7_least, Cond.static yX7_least, Cond.code yX7_least cX7_least 2 (some .int), Cond.methodLink RX7 120 yX7_change, Cond.static yX7_change, Cond.code yX7_change cX7_change 2 (some .int), Cond.methodLink RX7 165 yX7_findBest, Cond.instanceMethod yX7_findBest, Cond.selects RX7 yX7_findBest yX7_findBest, Cond.code yX7_findBest cX7_findBest 3 none, Cond.methodLink RX7 149 yX7_moved, Cond.instanceMethod yX7_moved, Cond.selects RX7 yX7_moved yX7_moved, Cond.code yX7_moved cX7_moved 5 (some .int), Cond.methodLink RX7 133 yX7_gain, Cond.instanceMethod yX7_gain, Cond.selects RX7 yX7_gain yX7_gain, Cond.code yX7_gain cX7_gain 3 (some .int), Cond.methodLink RX7 129 yX7_pairCost]
def wsL_law0_r16 : List Cond := [Cond.instanceMethod yX7_pairCost, Cond.selects RX7 yX7_pairCost yX7_pairCost, Cond.code yX7_pairCost cX7_pairCost 6 (some .int), Cond.methodLink RX7 152 yX7_asks, Cond.instanceMethod yX7_asks, Cond.selects RX7 yX7_asks yX7_asks, Cond.code yX7_asks cX7_asks 5 none, Cond.methodLink RX7 156 yX7_inHeap, Cond.instanceMethod yX7_inHeap, Cond.selects RX7 yX7_inHeap yX7_inHeap, Cond.code yX7_inHeap cX7_inHeap 4 (some .int), Cond.methodLink RX7 159 yX7_melted, Cond.instanceMethod yX7_melted, Cond.selects RX7 yX7_melted yX7_melted, Cond.code yX7_melted cX7_melted 6 (some .int), Cond.methodLink RX7 168 yX7_names, Cond.instanceMethod yX7_names, Cond.selects RX7 yX7_names yX7_names, Cond.code yX7_names cX7_names 3 none, Cond.methodLink RL 32 yX6_pair, Cond.instanceMethod yX6_pair, Cond.selects RX6 yX6_pair yX6_pair, Cond.code yX6_pair cX6_pair 4 (some .boolean), Cond.methodLink RX6 90 yX3_hasTwo]
def wsL_law0_r17 : List Cond := [Cond.instanceMethod yX3_hasTwo, Cond.selects RX3 yX3_hasTwo yX3_hasTwo, Cond.code yX3_hasTwo cX3_hasTwo 3 (some .boolean), Cond.methodLink RX3 34 yX3_has, Cond.instanceMethod yX3_has, Cond.selects RX3 yX3_has yX3_has, Cond.code yX3_has cX3_has 2 (some .boolean), Cond.methodLink RX6 94 yX1_wish, Cond.instanceMethod yX1_wish, Cond.selects RX1 yX1_wish yX1_wish, Cond.code yX1_wish cX1_wish 4 none, Cond.methodLink RL 36 yX7_pair, Cond.instanceMethod yX7_pair, Cond.selects RX7 yX7_pair yX7_pair, Cond.code yX7_pair cX7_pair 4 (some .boolean), Cond.methodLink RX7 181 yX7_areTwo, Cond.instanceMethod yX7_areTwo, Cond.selects RX7 yX7_areTwo yX7_areTwo, Cond.code yX7_areTwo cX7_areTwo 3 (some .boolean), Cond.methodLink RX7 178 yX7_isReport, Cond.instanceMethod yX7_isReport, Cond.selects RX7 yX7_isReport yX7_isReport, Cond.code yX7_isReport cX7_isReport 2 (some .boolean), Cond.methodLink RX7 184 yX7_tells]
def wsL_law0_r18 : List Cond := [Cond.instanceMethod yX7_tells, Cond.selects RX7 yX7_tells yX7_tells, Cond.code yX7_tells cX7_tells 4 none, Cond.methodLink RL 37 yX6_free, Cond.instanceMethod yX6_free, Cond.selects RX6 yX6_free yX6_free, Cond.code yX6_free cX6_free 3 (some .boolean), Cond.methodLink RX6 98 yX1_hasWish, Cond.instanceMethod yX1_hasWish, Cond.selects RX1 yX1_hasWish yX1_hasWish, Cond.code yX1_hasWish cX1_hasWish 3 (some .boolean), Cond.methodLink RL 41 yX7_free, Cond.instanceMethod yX7_free, Cond.selects RX7 yX7_free yX7_free, Cond.code yX7_free cX7_free 3 (some .boolean), Cond.methodLink RL 42 yX6_mark, Cond.instanceMethod yX6_mark, Cond.selects RX6 yX6_mark yX6_mark, Cond.code yX6_mark cX6_mark 2 (some .boolean), Cond.methodLink RX6 101 yX1_setT, Cond.instanceMethod yX1_setT, Cond.selects RX1 yX1_setT yX1_setT, Cond.code yX1_setT cX1_setT 2 (some .boolean), Cond.methodLink RL 46 yX7_mark]
def wsL_law0_r19 : List Cond := [Cond.instanceMethod yX7_mark, Cond.selects RX7 yX7_mark yX7_mark, Cond.code yX7_mark cX7_mark 2 (some .boolean), Cond.methodLink RL 47 yX6_resettle, Cond.instanceMethod yX6_resettle, Cond.selects RX6 yX6_resettle yX6_resettle, Cond.code yX6_resettle cX6_resettle 1 (some .int), Cond.methodLink RX6 104 yX1_partAll, Cond.instanceMethod yX1_partAll, Cond.selects RX1 yX1_partAll yX1_partAll, Cond.code yX1_partAll cX1_partAll 2 none, Cond.methodLink RX6 107 yX1_howMany, Cond.instanceMethod yX1_howMany, Cond.selects RX1 yX1_howMany yX1_howMany, Cond.code yX1_howMany cX1_howMany 1 (some .int), Cond.methodLink RL 51 yX7_resettle, Cond.instanceMethod yX7_resettle, Cond.selects RX7 yX7_resettle yX7_resettle, Cond.code yX7_resettle cX7_resettle 2 (some .int), Cond.methodLink RX7 174 yX7_heaps, Cond.instanceMethod yX7_heaps, Cond.selects RX7 yX7_heaps yX7_heaps, Cond.code yX7_heaps cX7_heaps 3 (some .int), Cond.methodLink RL 52 yX6_distance]
def wsL_law0_r20 : List Cond := [Cond.instanceMethod yX6_distance, Cond.selects RX6 yX6_distance yX6_distance, Cond.code yX6_distance cX6_distance 3 (some .int), Cond.methodLink RX6 111 yX3_has, Cond.methodLink RX6 112 yX0_between, Cond.methodLink RL 55 yX7_distance, Cond.instanceMethod yX7_distance, Cond.selects RX7 yX7_distance yX7_distance, Cond.code yX7_distance cX7_distance 3 (some .int), Cond.methodLink RL 56 yX6_heap, Cond.instanceMethod yX6_heap, Cond.selects RX6 yX6_heap yX6_heap, Cond.code yX6_heap cX6_heap 2 (some .int), Cond.methodLink RX6 116 yX1_leastBeside, Cond.instanceMethod yX1_leastBeside, Cond.selects RX1 yX1_leastBeside yX1_leastBeside, Cond.code yX1_leastBeside cX1_leastBeside 2 (some .int), Cond.methodLink RL 59 yX7_heap, Cond.instanceMethod yX7_heap, Cond.selects RX7 yX7_heap yX7_heap, Cond.code yX7_heap cX7_heap 2 (some .int), Cond.methodLink RL 60 yX6_cost, Cond.instanceMethod yX6_cost, Cond.selects RX6 yX6_cost yX6_cost]
def wsL_law0_r21 : List Cond := [Cond.code yX6_cost cX6_cost 3 (some .int), Cond.methodLink RX6 119 yX1_costOfAll, Cond.instanceMethod yX1_costOfAll, Cond.selects RX1 yX1_costOfAll yX1_costOfAll, Cond.code yX1_costOfAll cX1_costOfAll 5 (some .int), Cond.methodLink RX1 75 yX1_costOfPair, Cond.instanceMethod yX1_costOfPair, Cond.selects RX1 yX1_costOfPair yX1_costOfPair, Cond.code yX1_costOfPair cX1_costOfPair 6 (some .int), Cond.methodLink RX1 70 Lib.Math.max.name, Cond.static Lib.Math.max.name, Cond.code Lib.Math.max.name Lib.Math.max.code 2 (some .int), Cond.methodLink RX1 60 yX1_areTogether, Cond.instanceMethod yX1_areTogether, Cond.selects RX1 yX1_areTogether yX1_areTogether, Cond.code yX1_areTogether cX1_areTogether 3 (some .boolean), Cond.methodLink RX6 123 yX1_costOfPair, Cond.methodLink RL 63 yX7_cost, Cond.instanceMethod yX7_cost, Cond.selects RX7 yX7_cost yX7_cost, Cond.code yX7_cost cX7_cost 6 (some .int), Cond.methodLink RL 64 yX6_row, Cond.instanceMethod yX6_row, Cond.selects RX6 yX6_row yX6_row]
def wsL_law0_r22 : List Cond := [Cond.code yX6_row cX6_row 3 (some .int), Cond.methodLink RX6 127 yX3_hasFrame, Cond.instanceMethod yX3_hasFrame, Cond.selects RX3 yX3_hasFrame yX3_hasFrame, Cond.code yX3_hasFrame cX3_hasFrame 3 (some .boolean), Cond.methodLink RX6 130 yX3_frameAt, Cond.methodLink RL 67 yX7_row, Cond.instanceMethod yX7_row, Cond.selects RX7 yX7_row yX7_row, Cond.code yX7_row cX7_row 3 (some .int), Cond.methodLink RL 68 yX6_common, Cond.instanceMethod yX6_common, Cond.selects RX6 yX6_common yX6_common, Cond.code yX6_common cX6_common 2 (some .int), Cond.methodLink RX6 133 yX3_isCommon, Cond.methodLink RL 71 yX7_common, Cond.instanceMethod yX7_common, Cond.selects RX7 yX7_common yX7_common, Cond.code yX7_common cX7_common 2 (some .int), Cond.methodLink RL 72 yX6_sign, Cond.instanceMethod yX6_sign, Cond.selects RX6 yX6_sign yX6_sign, Cond.code yX6_sign cX6_sign 2 (some .int), Cond.methodLink RX6 136 yX1_setBeside]
def wsL_law0_r23 : List Cond := [Cond.instanceMethod yX1_setBeside, Cond.selects RX1 yX1_setBeside yX1_setBeside, Cond.code yX1_setBeside cX1_setBeside 5 (some .long), Cond.methodLink RX6 140 yX2_tell, Cond.instanceMethod yX2_tell, Cond.selects RX2 yX2_tell yX2_tell, Cond.code yX2_tell cX2_tell 6 (some .int), Cond.methodLink RX2 29 yX3_howMany, Cond.methodLink RX2 35 yX2_gatherShared, Cond.instanceMethod yX2_gatherShared, Cond.selects RX2 yX2_gatherShared yX2_gatherShared, Cond.code yX2_gatherShared cX2_gatherShared 7 none, Cond.methodLink RX2 49 yX3_holdersOf, Cond.instanceMethod yX3_holdersOf, Cond.selects RX3 yX3_holdersOf yX3_holdersOf, Cond.code yX3_holdersOf cX3_holdersOf 2 (some .long), Cond.methodLink RX2 39 yX2_findOne, Cond.instanceMethod yX2_findOne, Cond.selects RX2 yX2_findOne yX2_findOne, Cond.code yX2_findOne cX2_findOne 4 (some .boolean), Cond.methodLink RX2 43 yX2_findTwo, Cond.instanceMethod yX2_findTwo, Cond.selects RX2 yX2_findTwo yX2_findTwo, Cond.code yX2_findTwo cX2_findTwo 5 (some .boolean)]
def wsL_law0_r24 : List Cond := [Cond.methodLink RX2 46 yX2_findThree, Cond.instanceMethod yX2_findThree, Cond.selects RX2 yX2_findThree yX2_findThree, Cond.code yX2_findThree cX2_findThree 6 (some .boolean), Cond.methodLink RL 75 yX7_sign, Cond.instanceMethod yX7_sign, Cond.selects RX7 yX7_sign yX7_sign, Cond.code yX7_sign cX7_sign 4 (some .int), Cond.fieldLink RX7 202 "FaultHeapsModel" "signs" "I", Cond.methodLink RX7 198 yX7_findShared, Cond.instanceMethod yX7_findShared, Cond.selects RX7 yX7_findShared yX7_findShared, Cond.code yX7_findShared cX7_findShared 5 none, Cond.fieldLink RX7 188 "FaultHeapsModel" "shared" "I", Cond.methodLink RX7 194 yX7_seeks, Cond.instanceMethod yX7_seeks, Cond.selects RX7 yX7_seeks yX7_seeks, Cond.code yX7_seeks cX7_seeks 6 (some .boolean), Cond.methodLink RX7 191 yX7_isMark, Cond.instanceMethod yX7_isMark, Cond.selects RX7 yX7_isMark yX7_isMark, Cond.code yX7_isMark cX7_isMark 7 (some .boolean), Cond.methodLink RL 76 yX6_signed, Cond.instanceMethod yX6_signed]
def wsL_law0_r25 : List Cond := [Cond.selects RX6 yX6_signed yX6_signed, Cond.code yX6_signed cX6_signed 2 (some .int), Cond.methodLink RX6 144 yX2_latestAt, Cond.instanceMethod yX2_latestAt, Cond.selects RX2 yX2_latestAt yX2_latestAt, Cond.code yX2_latestAt cX2_latestAt 2 (some .int), Cond.methodLink RL 79 yX7_signed, Cond.instanceMethod yX7_signed, Cond.selects RX7 yX7_signed yX7_signed, Cond.code yX7_signed cX7_signed 2 (some .int), Cond.methodLink RL 80 yX6_fix, Cond.instanceMethod yX6_fix, Cond.selects RX6 yX6_fix yX6_fix, Cond.code yX6_fix cX6_fix 3 (some .boolean), Cond.methodLink RX6 147 yX3_setFixedAt, Cond.instanceMethod yX3_setFixedAt, Cond.selects RX3 yX3_setFixedAt yX3_setFixedAt, Cond.code yX3_setFixedAt cX3_setFixedAt 3 none, Cond.methodLink RL 83 yX7_fix, Cond.instanceMethod yX7_fix, Cond.selects RX7 yX7_fix yX7_fix, Cond.code yX7_fix cX7_fix 3 (some .boolean), Cond.methodLink RL 84 yL_look, Cond.static yL_look]
def wsL_law0_r26 : List Cond := [Cond.initialized RL, Cond.codeWith yL_look cL_look 5 (some .int) [(0, 10, 13, 13)], Cond.classLink RL 13 "java/util/NoSuchElementException", Cond.methodLink RL 7 yX6_look, Cond.instanceMethod yX6_look, Cond.selects RX6 yX6_look yX6_look, Cond.code yX6_look cX6_look 3 (some .int), Cond.classLink RX6 151 "java/util/NoSuchElementException", Cond.initialized "java/util/NoSuchElementException", Cond.methodLink RX6 158 yX3_versionOf, Cond.instanceMethod yX3_versionOf, Cond.selects RX3 yX3_versionOf yX3_versionOf, Cond.code yX3_versionOf cX3_versionOf 2 (some .int), Cond.methodLink RX6 161 yX3_lengthOf, Cond.methodLink RX6 164 yX3_fixedAt, Cond.instanceMethod yX3_fixedAt, Cond.selects RX3 yX3_fixedAt yX3_fixedAt, Cond.code yX3_fixedAt cX3_fixedAt 2 (some .int), Cond.methodLink RX6 167 yX6_cameBack, Cond.instanceMethod yX6_cameBack, Cond.selects RX6 yX6_cameBack yX6_cameBack, Cond.code yX6_cameBack cX6_cameBack 5 (some .boolean), Cond.methodLink RX6 178 yX3_howMany, Cond.methodLink RX6 193 yX1_areTogether]
def wsL_law0_r27 : List Cond := [Cond.methodLink RX6 175 yX5_isOrIsBehind, Cond.instanceMethod yX5_isOrIsBehind, Cond.selects RX5 yX5_isOrIsBehind yX5_isOrIsBehind, Cond.code yX5_isOrIsBehind cX5_isOrIsBehind 3 (some .boolean), Cond.methodLink RX6 170 yX1_sizeBeside, Cond.instanceMethod yX1_sizeBeside, Cond.selects RX1 yX1_sizeBeside yX1_sizeBeside, Cond.code yX1_sizeBeside cX1_sizeBeside 2 (some .int), Cond.methodLink RL 89 yX7_look, Cond.instanceMethod yX7_look, Cond.selects RX7 yX7_look yX7_look, Cond.code yX7_look cX7_look 3 (some .int), Cond.methodLink RX7 205 yX7_cameBack, Cond.instanceMethod yX7_cameBack, Cond.selects RX7 yX7_cameBack yX7_cameBack, Cond.code yX7_cameBack cX7_cameBack 4 (some .boolean), Cond.methodLink RX7 76 yX7_isBehind, Cond.instanceMethod yX7_isBehind, Cond.selects RX7 yX7_isBehind yX7_isBehind, Cond.code yX7_isBehind cX7_isBehind 4 (some .boolean), Cond.methodLink RL 90 yX7_thrown, Cond.instanceMethod yX7_thrown, Cond.selects RX7 yX7_thrown yX7_thrown, Cond.code yX7_thrown cX7_thrown 1 (some .int)]
def wsL_law0_r28 : List Cond := [Cond.methodLink RL 93 yX6_behind, Cond.instanceMethod yX6_behind, Cond.selects RX6 yX6_behind yX6_behind, Cond.code yX6_behind cX6_behind 3 (some .int), Cond.methodLink RL 96 yX7_behind, Cond.instanceMethod yX7_behind, Cond.selects RX7 yX7_behind yX7_behind, Cond.code yX7_behind cX7_behind 3 (some .int), Cond.methodLink RL 97 yX6_count, Cond.instanceMethod yX6_count, Cond.selects RX6 yX6_count yX6_count, Cond.code yX6_count cX6_count 2 (some .int), Cond.methodLink RX6 179 yX5_howMany, Cond.instanceMethod yX5_howMany, Cond.selects RX5 yX5_howMany yX5_howMany, Cond.code yX5_howMany cX5_howMany 1 (some .int), Cond.methodLink RX6 180 yX1_getT, Cond.instanceMethod yX1_getT, Cond.selects RX1 yX1_getT yX1_getT, Cond.code yX1_getT cX1_getT 1 (some .int), Cond.methodLink RX6 183 yX4_howMany, Cond.methodLink RX6 184 yX3_howManyCommon, Cond.instanceMethod yX3_howManyCommon, Cond.selects RX3 yX3_howManyCommon yX3_howManyCommon]
def wsL_law0_r29 : List Cond := [Cond.code yX3_howManyCommon cX3_howManyCommon 3 (some .int), Cond.methodLink RX3 54 yX3_isCommon, Cond.methodLink RX6 187 yX1_changesDone, Cond.instanceMethod yX1_changesDone, Cond.selects RX1 yX1_changesDone yX1_changesDone, Cond.code yX1_changesDone cX1_changesDone 1 (some .int), Cond.methodLink RX6 190 yX6_howManyCameBack, Cond.instanceMethod yX6_howManyCameBack, Cond.selects RX6 yX6_howManyCameBack yX6_howManyCameBack, Cond.code yX6_howManyCameBack cX6_howManyCameBack 3 (some .int), Cond.methodLink RL 100 yX7_count, Cond.instanceMethod yX7_count, Cond.selects RX7 yX7_count yX7_count, Cond.code yX7_count cX7_count 4 (some .int)]
def wsL_law0 : List Cond := (wsL_law0_r1 ++ (wsL_law0_r2 ++ (wsL_law0_r3 ++ (wsL_law0_r4 ++ (wsL_law0_r5 ++ (wsL_law0_r6 ++ (wsL_law0_r7 ++ (wsL_law0_r8 ++ (wsL_law0_r9 ++ (wsL_law0_r10 ++ (wsL_law0_r11 ++ (wsL_law0_r12 ++ (wsL_law0_r13 ++ (wsL_law0_r14 ++ (wsL_law0_r15 ++ (wsL_law0_r16 ++ (wsL_law0_r17 ++ (wsL_law0_r18 ++ (wsL_law0_r19 ++ (wsL_law0_r20 ++ (wsL_law0_r21 ++ (wsL_law0_r22 ++ (wsL_law0_r23 ++ (wsL_law0_r24 ++ (wsL_law0_r25 ++ (wsL_law0_r26 ++ (wsL_law0_r27 ++ (wsL_law0_r28 ++ wsL_law0_r29)))))))))))))))))))))))))))) ++ wsX60 ++ wsX70 ++ wsX40 ++ wsX50 ++ wsX30 ++ wsX00 ++ wsX10 ++ wsX20 ++ ([] : List Cond)
def wsL_law : List Cond := wsL_law0 ++ (vx_atS RX6 155 "java/util/NoSuchElementException" ["java/lang/RuntimeException", "java/lang/Exception"]).filter goodWord
theorem inJ13 : ∀ w ∈ wsJ130, w ∈ lw_tbl := by decide +kernel
theorem inJ9 : ∀ w ∈ wsJ90, w ∈ lw_tbl := by decide +kernel
theorem inJ0 : ∀ w ∈ wsJ00, w ∈ lw_tbl := by decide +kernel
theorem inJ7 : ∀ w ∈ wsJ70, w ∈ lw_tbl := by decide +kernel
set_option maxRecDepth 20000 in
theorem ggX0_init_J7_fill_53178 : GoodIn wsX0_init wsJ7_fill_53178 := goodIn_r _ [15] (by decide +kernel) (by decide +kernel)
set_option maxRecDepth 20000 in
theorem gX0_init_J7_fill_53178 : GoodIn wsX0_init (va_wsS RX0 30 yJ7_fill_53178 wsJ7_fill_53178) := goodIn_app (goodIn_of _ (by decide +kernel)) ggX0_init_J7_fill_53178
theorem dX0_init_0 : decode cX0_init 0 = .ok (.aload_n 0, 1) := by decide +kernel
theorem dX0_init_1 : decode cX0_init 1 = .ok (.invokespecial 3, 3) := by decide +kernel
theorem dX0_init_4 : decode cX0_init 4 = .ok (.aload_n 0, 1) := by decide +kernel
theorem dX0_init_5 : decode cX0_init 5 = .ok (.bipush 40, 2) := by decide +kernel
theorem dX0_init_7 : decode cX0_init 7 = .ok (.bipush 12, 2) := by decide +kernel
theorem dX0_init_9 : decode cX0_init 9 = .ok (.multianewarray 9 2, 4) := by decide +kernel
theorem dX0_init_13 : decode cX0_init 13 = .ok (.putfield 11, 3) := by decide +kernel
theorem dX0_init_16 : decode cX0_init 16 = .ok (.aload_n 0, 1) := by decide +kernel
theorem dX0_init_17 : decode cX0_init 17 = .ok (.bipush 40, 2) := by decide +kernel
theorem dX0_init_19 : decode cX0_init 19 = .ok (.newarray .int, 2) := by decide +kernel
theorem dX0_init_21 : decode cX0_init 21 = .ok (.putfield 16, 3) := by decide +kernel
theorem dX0_init_24 : decode cX0_init 24 = .ok (.aload_n 0, 1) := by decide +kernel
theorem dX0_init_25 : decode cX0_init 25 = .ok (.bipush 40, 2) := by decide +kernel
theorem dX0_init_27 : decode cX0_init 27 = .ok (.newarray .boolean, 2) := by decide +kernel
theorem dX0_init_29 : decode cX0_init 29 = .ok (.putfield 20, 3) := by decide +kernel
theorem dX0_init_32 : decode cX0_init 32 = .ok (.aload_n 0, 1) := by decide +kernel
theorem dX0_init_33 : decode cX0_init 33 = .ok (.bipush 40, 2) := by decide +kernel
theorem dX0_init_35 : decode cX0_init 35 = .ok (.bipush 40, 2) := by decide +kernel
theorem dX0_init_37 : decode cX0_init 37 = .ok (.multianewarray 9 2, 4) := by decide +kernel
theorem dX0_init_41 : decode cX0_init 41 = .ok (.putfield 24, 3) := by decide +kernel
theorem dX0_init_44 : decode cX0_init 44 = .ok (.aload_n 0, 1) := by decide +kernel
theorem dX0_init_45 : decode cX0_init 45 = .ok (.bipush 13, 2) := by decide +kernel
theorem dX0_init_47 : decode cX0_init 47 = .ok (.bipush 13, 2) := by decide +kernel
theorem dX0_init_49 : decode cX0_init 49 = .ok (.multianewarray 9 2, 4) := by decide +kernel
theorem dX0_init_53 : decode cX0_init 53 = .ok (.putfield 27, 3) := by decide +kernel
theorem dX0_init_56 : decode cX0_init 56 = .ok (.aload_n 0, 1) := by decide +kernel
theorem dX0_init_57 : decode cX0_init 57 = .ok (.getfield 16, 3) := by decide +kernel
theorem dX0_init_60 : decode cX0_init 60 = .ok (.iconst (-1), 1) := by decide +kernel
theorem dX0_init_61 : decode cX0_init 61 = .ok (.invokestatic 30, 3) := by decide +kernel
theorem dX0_init_64 : decode cX0_init 64 = .ok (.return_, 1) := by decide +kernel
theorem dX0_between_0 : decode cX0_between 0 = .ok (.aload_n 0, 1) := by decide +kernel
theorem dX0_between_1 : decode cX0_between 1 = .ok (.getfield 24, 3) := by decide +kernel
theorem dX0_between_4 : decode cX0_between 4 = .ok (.iload_n 1, 1) := by decide +kernel
theorem dX0_between_5 : decode cX0_between 5 = .ok (.aaload, 1) := by decide +kernel
theorem dX0_between_6 : decode cX0_between 6 = .ok (.iload_n 2, 1) := by decide +kernel
theorem dX0_between_7 : decode cX0_between 7 = .ok (.iaload, 1) := by decide +kernel
theorem dX0_between_8 : decode cX0_between 8 = .ok (.ireturn, 1) := by decide +kernel
set_option maxRecDepth 20000 in
theorem ggX0_renew_X3_howMany : GoodIn wsX0_renew wsX3_howMany := goodIn_r _ [7, 8, 58, 59, 60, 61, 62, 63] (by decide +kernel) (by decide +kernel)
set_option maxRecDepth 20000 in
theorem gX0_renew_X3_howMany : GoodIn wsX0_renew (wsV RX0 36 RX3 yX3_howMany wsX3_howMany) := goodIn_app (goodIn_of _ (by decide +kernel)) ggX0_renew_X3_howMany
set_option maxRecDepth 20000 in
theorem ggX0_renew_X0_strip : GoodIn wsX0_renew wsX0_strip := goodIn_r _ [13, 14, 15, 16, 17, 18, 6, 19, 20, 21, 22, 23, 24, 25, 26, 27, 28, 29, 8, 30, 31, 32, 33, 34, 35, 36, 37, 53, 54, 55, 56, 57, 58, 59, 60, 61, 62, 63] (by decide +kernel) (by decide +kernel)
set_option maxRecDepth 20000 in
theorem gX0_renew_X0_strip : GoodIn wsX0_renew (wsV RX0 42 RX0 yX0_strip wsX0_strip) := goodIn_app (goodIn_of _ (by decide +kernel)) ggX0_renew_X0_strip
set_option maxRecDepth 20000 in
theorem ggX0_renew_X0_measure : GoodIn wsX0_renew wsX0_measure := goodIn_r _ [41, 14, 42, 15, 43, 44, 45, 46, 47, 48, 12, 49, 50, 51, 52, 53, 54, 55, 56, 57] (by decide +kernel) (by decide +kernel)
set_option maxRecDepth 20000 in
theorem gX0_renew_X0_measure : GoodIn wsX0_renew (wsV RX0 46 RX0 yX0_measure wsX0_measure) := goodIn_app (goodIn_of _ (by decide +kernel)) ggX0_renew_X0_measure
theorem dX0_renew_0 : decode cX0_renew 0 = .ok (.aload_n 1, 1) := by decide +kernel
theorem dX0_renew_1 : decode cX0_renew 1 = .ok (.invokevirtual 36, 3) := by decide +kernel
theorem dX0_renew_4 : decode cX0_renew 4 = .ok (.istore_n 2, 1) := by decide +kernel
theorem dX0_renew_5 : decode cX0_renew 5 = .ok (.iconst 0, 1) := by decide +kernel
theorem dX0_renew_6 : decode cX0_renew 6 = .ok (.istore_n 3, 1) := by decide +kernel
theorem dX0_renew_7 : decode cX0_renew 7 = .ok (.iload_n 3, 1) := by decide +kernel
theorem dX0_renew_8 : decode cX0_renew 8 = .ok (.iload_n 2, 1) := by decide +kernel
theorem dX0_renew_9 : decode cX0_renew 9 = .ok (.if_icmp .ge 21, 3) := by decide +kernel
theorem dX0_renew_12 : decode cX0_renew 12 = .ok (.aload_n 0, 1) := by decide +kernel
theorem dX0_renew_13 : decode cX0_renew 13 = .ok (.getfield 20, 3) := by decide +kernel
theorem dX0_renew_16 : decode cX0_renew 16 = .ok (.iload_n 3, 1) := by decide +kernel
theorem dX0_renew_17 : decode cX0_renew 17 = .ok (.aload_n 0, 1) := by decide +kernel
theorem dX0_renew_18 : decode cX0_renew 18 = .ok (.aload_n 1, 1) := by decide +kernel
theorem dX0_renew_19 : decode cX0_renew 19 = .ok (.iload_n 3, 1) := by decide +kernel
theorem dX0_renew_20 : decode cX0_renew 20 = .ok (.invokevirtual 42, 3) := by decide +kernel
theorem dX0_renew_23 : decode cX0_renew 23 = .ok (.bastore, 1) := by decide +kernel
theorem dX0_renew_24 : decode cX0_renew 24 = .ok (.iinc 3 1, 3) := by decide +kernel
theorem dX0_renew_27 : decode cX0_renew 27 = .ok (.goto (-20), 3) := by decide +kernel
theorem dX0_renew_30 : decode cX0_renew 30 = .ok (.iconst 0, 1) := by decide +kernel
theorem dX0_renew_31 : decode cX0_renew 31 = .ok (.istore_n 3, 1) := by decide +kernel
theorem dX0_renew_32 : decode cX0_renew 32 = .ok (.iload_n 3, 1) := by decide +kernel
theorem dX0_renew_33 : decode cX0_renew 33 = .ok (.iload_n 2, 1) := by decide +kernel
theorem dX0_renew_34 : decode cX0_renew 34 = .ok (.if_icmp .ge 74, 3) := by decide +kernel
theorem dX0_renew_37 : decode cX0_renew 37 = .ok (.iconst 0, 1) := by decide +kernel
theorem dX0_renew_38 : decode cX0_renew 38 = .ok (.istore 4, 2) := by decide +kernel
theorem dX0_renew_40 : decode cX0_renew 40 = .ok (.iload 4, 2) := by decide +kernel
theorem dX0_renew_42 : decode cX0_renew 42 = .ok (.iload_n 3, 1) := by decide +kernel
theorem dX0_renew_43 : decode cX0_renew 43 = .ok (.if_icmp .ge 59, 3) := by decide +kernel
theorem dX0_renew_46 : decode cX0_renew 46 = .ok (.aload_n 0, 1) := by decide +kernel
theorem dX0_renew_47 : decode cX0_renew 47 = .ok (.getfield 20, 3) := by decide +kernel
theorem dX0_renew_50 : decode cX0_renew 50 = .ok (.iload_n 3, 1) := by decide +kernel
theorem dX0_renew_51 : decode cX0_renew 51 = .ok (.baload, 1) := by decide +kernel
theorem dX0_renew_52 : decode cX0_renew 52 = .ok (.ifCond .ne 13, 3) := by decide +kernel
theorem dX0_renew_55 : decode cX0_renew 55 = .ok (.aload_n 0, 1) := by decide +kernel
theorem dX0_renew_56 : decode cX0_renew 56 = .ok (.getfield 20, 3) := by decide +kernel
theorem dX0_renew_59 : decode cX0_renew 59 = .ok (.iload 4, 2) := by decide +kernel
theorem dX0_renew_61 : decode cX0_renew 61 = .ok (.baload, 1) := by decide +kernel
theorem dX0_renew_62 : decode cX0_renew 62 = .ok (.ifCond .eq 34, 3) := by decide +kernel
theorem dX0_renew_65 : decode cX0_renew 65 = .ok (.aload_n 0, 1) := by decide +kernel
theorem dX0_renew_66 : decode cX0_renew 66 = .ok (.iload_n 3, 1) := by decide +kernel
theorem dX0_renew_67 : decode cX0_renew 67 = .ok (.iload 4, 2) := by decide +kernel
theorem dX0_renew_69 : decode cX0_renew 69 = .ok (.invokevirtual 46, 3) := by decide +kernel
theorem dX0_renew_72 : decode cX0_renew 72 = .ok (.istore 5, 2) := by decide +kernel
theorem dX0_renew_74 : decode cX0_renew 74 = .ok (.aload_n 0, 1) := by decide +kernel
theorem dX0_renew_75 : decode cX0_renew 75 = .ok (.getfield 24, 3) := by decide +kernel
theorem dX0_renew_78 : decode cX0_renew 78 = .ok (.iload_n 3, 1) := by decide +kernel
theorem dX0_renew_79 : decode cX0_renew 79 = .ok (.aaload, 1) := by decide +kernel
theorem dX0_renew_80 : decode cX0_renew 80 = .ok (.iload 4, 2) := by decide +kernel
theorem dX0_renew_82 : decode cX0_renew 82 = .ok (.iload 5, 2) := by decide +kernel
theorem dX0_renew_84 : decode cX0_renew 84 = .ok (.iastore, 1) := by decide +kernel
theorem dX0_renew_85 : decode cX0_renew 85 = .ok (.aload_n 0, 1) := by decide +kernel
theorem dX0_renew_86 : decode cX0_renew 86 = .ok (.getfield 24, 3) := by decide +kernel
theorem dX0_renew_89 : decode cX0_renew 89 = .ok (.iload 4, 2) := by decide +kernel
theorem dX0_renew_91 : decode cX0_renew 91 = .ok (.aaload, 1) := by decide +kernel
theorem dX0_renew_92 : decode cX0_renew 92 = .ok (.iload_n 3, 1) := by decide +kernel
theorem dX0_renew_93 : decode cX0_renew 93 = .ok (.iload 5, 2) := by decide +kernel
theorem dX0_renew_95 : decode cX0_renew 95 = .ok (.iastore, 1) := by decide +kernel
theorem dX0_renew_96 : decode cX0_renew 96 = .ok (.iinc 4 1, 3) := by decide +kernel
theorem dX0_renew_99 : decode cX0_renew 99 = .ok (.goto (-59), 3) := by decide +kernel
theorem dX0_renew_102 : decode cX0_renew 102 = .ok (.iinc 3 1, 3) := by decide +kernel
theorem dX0_renew_105 : decode cX0_renew 105 = .ok (.goto (-73), 3) := by decide +kernel
theorem dX0_renew_108 : decode cX0_renew 108 = .ok (.return_, 1) := by decide +kernel
set_option maxRecDepth 20000 in
theorem ggX0_strip_X3_lengthOf : GoodIn wsX0_strip wsX3_lengthOf := goodIn_r _ [7, 8, 32, 33, 34, 35, 36, 37] (by decide +kernel) (by decide +kernel)
set_option maxRecDepth 20000 in
theorem gX0_strip_X3_lengthOf : GoodIn wsX0_strip (wsV RX0 50 RX3 yX3_lengthOf wsX3_lengthOf) := goodIn_app (goodIn_of _ (by decide +kernel)) ggX0_strip_X3_lengthOf
set_option maxRecDepth 20000 in
theorem ggX0_strip_X3_frameAt : GoodIn wsX0_strip wsX3_frameAt := goodIn_r _ [12, 13, 32, 33, 34, 35, 36, 37] (by decide +kernel) (by decide +kernel)
set_option maxRecDepth 20000 in
theorem gX0_strip_X3_frameAt : GoodIn wsX0_strip (wsV RX0 54 RX3 yX3_frameAt wsX3_frameAt) := goodIn_app (goodIn_of _ (by decide +kernel)) ggX0_strip_X3_frameAt
set_option maxRecDepth 20000 in
theorem ggX0_strip_X3_isCommon : GoodIn wsX0_strip wsX3_isCommon := goodIn_r _ [17, 18, 19, 20, 21, 22, 23, 24, 25, 26, 32, 33, 34, 35, 36, 37] (by decide +kernel) (by decide +kernel)
set_option maxRecDepth 20000 in
theorem gX0_strip_X3_isCommon : GoodIn wsX0_strip (wsV RX0 57 RX3 yX3_isCommon wsX3_isCommon) := goodIn_app (goodIn_of _ (by decide +kernel)) ggX0_strip_X3_isCommon
theorem dX0_strip_0 : decode cX0_strip 0 = .ok (.aload_n 0, 1) := by decide +kernel
theorem dX0_strip_1 : decode cX0_strip 1 = .ok (.getfield 11, 3) := by decide +kernel
theorem dX0_strip_4 : decode cX0_strip 4 = .ok (.iload_n 2, 1) := by decide +kernel
theorem dX0_strip_5 : decode cX0_strip 5 = .ok (.aaload, 1) := by decide +kernel
theorem dX0_strip_6 : decode cX0_strip 6 = .ok (.astore_n 3, 1) := by decide +kernel
theorem dX0_strip_7 : decode cX0_strip 7 = .ok (.iconst 0, 1) := by decide +kernel
theorem dX0_strip_8 : decode cX0_strip 8 = .ok (.istore 4, 2) := by decide +kernel
theorem dX0_strip_10 : decode cX0_strip 10 = .ok (.iconst 0, 1) := by decide +kernel
theorem dX0_strip_11 : decode cX0_strip 11 = .ok (.istore 5, 2) := by decide +kernel
theorem dX0_strip_13 : decode cX0_strip 13 = .ok (.iconst 0, 1) := by decide +kernel
theorem dX0_strip_14 : decode cX0_strip 14 = .ok (.istore 6, 2) := by decide +kernel
theorem dX0_strip_16 : decode cX0_strip 16 = .ok (.iload 6, 2) := by decide +kernel
theorem dX0_strip_18 : decode cX0_strip 18 = .ok (.aload_n 1, 1) := by decide +kernel
theorem dX0_strip_19 : decode cX0_strip 19 = .ok (.iload_n 2, 1) := by decide +kernel
theorem dX0_strip_20 : decode cX0_strip 20 = .ok (.invokevirtual 50, 3) := by decide +kernel
theorem dX0_strip_23 : decode cX0_strip 23 = .ok (.if_icmp .ge 57, 3) := by decide +kernel
theorem dX0_strip_26 : decode cX0_strip 26 = .ok (.aload_n 1, 1) := by decide +kernel
theorem dX0_strip_27 : decode cX0_strip 27 = .ok (.iload_n 2, 1) := by decide +kernel
theorem dX0_strip_28 : decode cX0_strip 28 = .ok (.iload 6, 2) := by decide +kernel
theorem dX0_strip_30 : decode cX0_strip 30 = .ok (.invokevirtual 54, 3) := by decide +kernel
theorem dX0_strip_33 : decode cX0_strip 33 = .ok (.istore 7, 2) := by decide +kernel
theorem dX0_strip_35 : decode cX0_strip 35 = .ok (.aload_n 1, 1) := by decide +kernel
theorem dX0_strip_36 : decode cX0_strip 36 = .ok (.iload 7, 2) := by decide +kernel
theorem dX0_strip_38 : decode cX0_strip 38 = .ok (.invokevirtual 57, 3) := by decide +kernel
theorem dX0_strip_41 : decode cX0_strip 41 = .ok (.ifCond .ne 33, 3) := by decide +kernel
theorem dX0_strip_44 : decode cX0_strip 44 = .ok (.iload 5, 2) := by decide +kernel
theorem dX0_strip_46 : decode cX0_strip 46 = .ok (.ifCond .ne 12, 3) := by decide +kernel
theorem dX0_strip_49 : decode cX0_strip 49 = .ok (.aload_n 3, 1) := by decide +kernel
theorem dX0_strip_50 : decode cX0_strip 50 = .ok (.iload 4, 2) := by decide +kernel
theorem dX0_strip_52 : decode cX0_strip 52 = .ok (.iaload, 1) := by decide +kernel
theorem dX0_strip_53 : decode cX0_strip 53 = .ok (.iload 7, 2) := by decide +kernel
theorem dX0_strip_55 : decode cX0_strip 55 = .ok (.if_icmp .eq 7, 3) := by decide +kernel
theorem dX0_strip_58 : decode cX0_strip 58 = .ok (.iconst 1, 1) := by decide +kernel
theorem dX0_strip_59 : decode cX0_strip 59 = .ok (.goto 4, 3) := by decide +kernel
theorem dX0_strip_62 : decode cX0_strip 62 = .ok (.iconst 0, 1) := by decide +kernel
theorem dX0_strip_63 : decode cX0_strip 63 = .ok (.istore 5, 2) := by decide +kernel
theorem dX0_strip_65 : decode cX0_strip 65 = .ok (.aload_n 3, 1) := by decide +kernel
theorem dX0_strip_66 : decode cX0_strip 66 = .ok (.iload 4, 2) := by decide +kernel
theorem dX0_strip_68 : decode cX0_strip 68 = .ok (.iload 7, 2) := by decide +kernel
theorem dX0_strip_70 : decode cX0_strip 70 = .ok (.iastore, 1) := by decide +kernel
theorem dX0_strip_71 : decode cX0_strip 71 = .ok (.iinc 4 1, 3) := by decide +kernel
theorem dX0_strip_74 : decode cX0_strip 74 = .ok (.iinc 6 1, 3) := by decide +kernel
theorem dX0_strip_77 : decode cX0_strip 77 = .ok (.goto (-61), 3) := by decide +kernel
theorem dX0_strip_80 : decode cX0_strip 80 = .ok (.iload 5, 2) := by decide +kernel
theorem dX0_strip_82 : decode cX0_strip 82 = .ok (.ifCond .ne 14, 3) := by decide +kernel
theorem dX0_strip_85 : decode cX0_strip 85 = .ok (.iload 4, 2) := by decide +kernel
theorem dX0_strip_87 : decode cX0_strip 87 = .ok (.aload_n 0, 1) := by decide +kernel
theorem dX0_strip_88 : decode cX0_strip 88 = .ok (.getfield 16, 3) := by decide +kernel
theorem dX0_strip_91 : decode cX0_strip 91 = .ok (.iload_n 2, 1) := by decide +kernel
theorem dX0_strip_92 : decode cX0_strip 92 = .ok (.iaload, 1) := by decide +kernel
theorem dX0_strip_93 : decode cX0_strip 93 = .ok (.if_icmp .eq 7, 3) := by decide +kernel
theorem dX0_strip_96 : decode cX0_strip 96 = .ok (.iconst 1, 1) := by decide +kernel
theorem dX0_strip_97 : decode cX0_strip 97 = .ok (.goto 4, 3) := by decide +kernel
theorem dX0_strip_100 : decode cX0_strip 100 = .ok (.iconst 0, 1) := by decide +kernel
theorem dX0_strip_101 : decode cX0_strip 101 = .ok (.istore 5, 2) := by decide +kernel
theorem dX0_strip_103 : decode cX0_strip 103 = .ok (.aload_n 0, 1) := by decide +kernel
theorem dX0_strip_104 : decode cX0_strip 104 = .ok (.getfield 16, 3) := by decide +kernel
theorem dX0_strip_107 : decode cX0_strip 107 = .ok (.iload_n 2, 1) := by decide +kernel
theorem dX0_strip_108 : decode cX0_strip 108 = .ok (.iload 4, 2) := by decide +kernel
theorem dX0_strip_110 : decode cX0_strip 110 = .ok (.iastore, 1) := by decide +kernel
theorem dX0_strip_111 : decode cX0_strip 111 = .ok (.iload 5, 2) := by decide +kernel
theorem dX0_strip_113 : decode cX0_strip 113 = .ok (.ireturn, 1) := by decide +kernel
set_option maxRecDepth 20000 in
theorem ggX0_measure_X0_costOfOne : GoodIn wsX0_measure wsX0_costOfOne := goodIn_r _ [11] (by decide +kernel) (by decide +kernel)
set_option maxRecDepth 20000 in
theorem gX0_measure_X0_costOfOne : GoodIn wsX0_measure (va_wsS RX0 61 yX0_costOfOne wsX0_costOfOne) := goodIn_app (goodIn_of _ (by decide +kernel)) ggX0_measure_X0_costOfOne
set_option maxRecDepth 20000 in
theorem ggX0_measure_X0_costOfChange : GoodIn wsX0_measure wsX0_costOfChange := goodIn_r _ [14] (by decide +kernel) (by decide +kernel)
set_option maxRecDepth 20000 in
theorem gX0_measure_X0_costOfChange : GoodIn wsX0_measure (va_wsS RX0 64 yX0_costOfChange wsX0_costOfChange) := goodIn_app (goodIn_of _ (by decide +kernel)) ggX0_measure_X0_costOfChange
theorem dX0_measure_0 : decode cX0_measure 0 = .ok (.aload_n 0, 1) := by decide +kernel
theorem dX0_measure_1 : decode cX0_measure 1 = .ok (.getfield 11, 3) := by decide +kernel
theorem dX0_measure_4 : decode cX0_measure 4 = .ok (.iload_n 1, 1) := by decide +kernel
theorem dX0_measure_5 : decode cX0_measure 5 = .ok (.aaload, 1) := by decide +kernel
theorem dX0_measure_6 : decode cX0_measure 6 = .ok (.astore_n 3, 1) := by decide +kernel
theorem dX0_measure_7 : decode cX0_measure 7 = .ok (.aload_n 0, 1) := by decide +kernel
theorem dX0_measure_8 : decode cX0_measure 8 = .ok (.getfield 11, 3) := by decide +kernel
theorem dX0_measure_11 : decode cX0_measure 11 = .ok (.iload_n 2, 1) := by decide +kernel
theorem dX0_measure_12 : decode cX0_measure 12 = .ok (.aaload, 1) := by decide +kernel
theorem dX0_measure_13 : decode cX0_measure 13 = .ok (.astore 4, 2) := by decide +kernel
theorem dX0_measure_15 : decode cX0_measure 15 = .ok (.aload_n 0, 1) := by decide +kernel
theorem dX0_measure_16 : decode cX0_measure 16 = .ok (.getfield 27, 3) := by decide +kernel
theorem dX0_measure_19 : decode cX0_measure 19 = .ok (.iconst 0, 1) := by decide +kernel
theorem dX0_measure_20 : decode cX0_measure 20 = .ok (.aaload, 1) := by decide +kernel
theorem dX0_measure_21 : decode cX0_measure 21 = .ok (.iconst 0, 1) := by decide +kernel
theorem dX0_measure_22 : decode cX0_measure 22 = .ok (.iconst 0, 1) := by decide +kernel
theorem dX0_measure_23 : decode cX0_measure 23 = .ok (.iastore, 1) := by decide +kernel
theorem dX0_measure_24 : decode cX0_measure 24 = .ok (.iconst 1, 1) := by decide +kernel
theorem dX0_measure_25 : decode cX0_measure 25 = .ok (.istore 5, 2) := by decide +kernel
theorem dX0_measure_27 : decode cX0_measure 27 = .ok (.iload 5, 2) := by decide +kernel
theorem dX0_measure_29 : decode cX0_measure 29 = .ok (.aload_n 0, 1) := by decide +kernel
theorem dX0_measure_30 : decode cX0_measure 30 = .ok (.getfield 16, 3) := by decide +kernel
theorem dX0_measure_33 : decode cX0_measure 33 = .ok (.iload_n 2, 1) := by decide +kernel
theorem dX0_measure_34 : decode cX0_measure 34 = .ok (.iaload, 1) := by decide +kernel
theorem dX0_measure_35 : decode cX0_measure 35 = .ok (.if_icmp .gt 40, 3) := by decide +kernel
theorem dX0_measure_38 : decode cX0_measure 38 = .ok (.aload_n 0, 1) := by decide +kernel
theorem dX0_measure_39 : decode cX0_measure 39 = .ok (.getfield 27, 3) := by decide +kernel
theorem dX0_measure_42 : decode cX0_measure 42 = .ok (.iconst 0, 1) := by decide +kernel
theorem dX0_measure_43 : decode cX0_measure 43 = .ok (.aaload, 1) := by decide +kernel
theorem dX0_measure_44 : decode cX0_measure 44 = .ok (.iload 5, 2) := by decide +kernel
theorem dX0_measure_46 : decode cX0_measure 46 = .ok (.aload_n 0, 1) := by decide +kernel
theorem dX0_measure_47 : decode cX0_measure 47 = .ok (.getfield 27, 3) := by decide +kernel
theorem dX0_measure_50 : decode cX0_measure 50 = .ok (.iconst 0, 1) := by decide +kernel
theorem dX0_measure_51 : decode cX0_measure 51 = .ok (.aaload, 1) := by decide +kernel
theorem dX0_measure_52 : decode cX0_measure 52 = .ok (.iload 5, 2) := by decide +kernel
theorem dX0_measure_54 : decode cX0_measure 54 = .ok (.iconst 1, 1) := by decide +kernel
theorem dX0_measure_55 : decode cX0_measure 55 = .ok (.isub, 1) := by decide +kernel
theorem dX0_measure_56 : decode cX0_measure 56 = .ok (.iaload, 1) := by decide +kernel
theorem dX0_measure_57 : decode cX0_measure 57 = .ok (.aload 4, 2) := by decide +kernel
theorem dX0_measure_59 : decode cX0_measure 59 = .ok (.iload 5, 2) := by decide +kernel
theorem dX0_measure_61 : decode cX0_measure 61 = .ok (.iconst 1, 1) := by decide +kernel
theorem dX0_measure_62 : decode cX0_measure 62 = .ok (.isub, 1) := by decide +kernel
theorem dX0_measure_63 : decode cX0_measure 63 = .ok (.iaload, 1) := by decide +kernel
theorem dX0_measure_64 : decode cX0_measure 64 = .ok (.invokestatic 61, 3) := by decide +kernel
theorem dX0_measure_67 : decode cX0_measure 67 = .ok (.iadd, 1) := by decide +kernel
theorem dX0_measure_68 : decode cX0_measure 68 = .ok (.iastore, 1) := by decide +kernel
theorem dX0_measure_69 : decode cX0_measure 69 = .ok (.iinc 5 1, 3) := by decide +kernel
theorem dX0_measure_72 : decode cX0_measure 72 = .ok (.goto (-45), 3) := by decide +kernel
theorem dX0_measure_75 : decode cX0_measure 75 = .ok (.iconst 1, 1) := by decide +kernel
theorem dX0_measure_76 : decode cX0_measure 76 = .ok (.istore 5, 2) := by decide +kernel
theorem dX0_measure_78 : decode cX0_measure 78 = .ok (.iload 5, 2) := by decide +kernel
theorem dX0_measure_80 : decode cX0_measure 80 = .ok (.aload_n 0, 1) := by decide +kernel
theorem dX0_measure_81 : decode cX0_measure 81 = .ok (.getfield 16, 3) := by decide +kernel
theorem dX0_measure_84 : decode cX0_measure 84 = .ok (.iload_n 1, 1) := by decide +kernel
theorem dX0_measure_85 : decode cX0_measure 85 = .ok (.iaload, 1) := by decide +kernel
theorem dX0_measure_86 : decode cX0_measure 86 = .ok (.if_icmp .gt 158, 3) := by decide +kernel
theorem dX0_measure_89 : decode cX0_measure 89 = .ok (.aload_n 3, 1) := by decide +kernel
theorem dX0_measure_90 : decode cX0_measure 90 = .ok (.iload 5, 2) := by decide +kernel
theorem dX0_measure_92 : decode cX0_measure 92 = .ok (.iconst 1, 1) := by decide +kernel
theorem dX0_measure_93 : decode cX0_measure 93 = .ok (.isub, 1) := by decide +kernel
theorem dX0_measure_94 : decode cX0_measure 94 = .ok (.iaload, 1) := by decide +kernel
theorem dX0_measure_95 : decode cX0_measure 95 = .ok (.istore 6, 2) := by decide +kernel
theorem dX0_measure_97 : decode cX0_measure 97 = .ok (.aload_n 0, 1) := by decide +kernel
theorem dX0_measure_98 : decode cX0_measure 98 = .ok (.getfield 27, 3) := by decide +kernel
theorem dX0_measure_101 : decode cX0_measure 101 = .ok (.iload 5, 2) := by decide +kernel
theorem dX0_measure_103 : decode cX0_measure 103 = .ok (.aaload, 1) := by decide +kernel
theorem dX0_measure_104 : decode cX0_measure 104 = .ok (.iconst 0, 1) := by decide +kernel
theorem dX0_measure_105 : decode cX0_measure 105 = .ok (.aload_n 0, 1) := by decide +kernel
theorem dX0_measure_106 : decode cX0_measure 106 = .ok (.getfield 27, 3) := by decide +kernel
theorem dX0_measure_109 : decode cX0_measure 109 = .ok (.iload 5, 2) := by decide +kernel
theorem dX0_measure_111 : decode cX0_measure 111 = .ok (.iconst 1, 1) := by decide +kernel
theorem dX0_measure_112 : decode cX0_measure 112 = .ok (.isub, 1) := by decide +kernel
theorem dX0_measure_113 : decode cX0_measure 113 = .ok (.aaload, 1) := by decide +kernel
theorem dX0_measure_114 : decode cX0_measure 114 = .ok (.iconst 0, 1) := by decide +kernel
theorem dX0_measure_115 : decode cX0_measure 115 = .ok (.iaload, 1) := by decide +kernel
theorem dX0_measure_116 : decode cX0_measure 116 = .ok (.iload 6, 2) := by decide +kernel
theorem dX0_measure_118 : decode cX0_measure 118 = .ok (.invokestatic 61, 3) := by decide +kernel
theorem dX0_measure_121 : decode cX0_measure 121 = .ok (.iadd, 1) := by decide +kernel
theorem dX0_measure_122 : decode cX0_measure 122 = .ok (.iastore, 1) := by decide +kernel
theorem dX0_measure_123 : decode cX0_measure 123 = .ok (.iconst 1, 1) := by decide +kernel
theorem dX0_measure_124 : decode cX0_measure 124 = .ok (.istore 7, 2) := by decide +kernel
theorem dX0_measure_126 : decode cX0_measure 126 = .ok (.iload 7, 2) := by decide +kernel
theorem dX0_measure_128 : decode cX0_measure 128 = .ok (.aload_n 0, 1) := by decide +kernel
theorem dX0_measure_129 : decode cX0_measure 129 = .ok (.getfield 16, 3) := by decide +kernel
theorem dX0_measure_132 : decode cX0_measure 132 = .ok (.iload_n 2, 1) := by decide +kernel
theorem dX0_measure_133 : decode cX0_measure 133 = .ok (.iaload, 1) := by decide +kernel
theorem dX0_measure_134 : decode cX0_measure 134 = .ok (.if_icmp .gt 104, 3) := by decide +kernel
theorem dX0_measure_137 : decode cX0_measure 137 = .ok (.aload 4, 2) := by decide +kernel
theorem dX0_measure_139 : decode cX0_measure 139 = .ok (.iload 7, 2) := by decide +kernel
theorem dX0_measure_141 : decode cX0_measure 141 = .ok (.iconst 1, 1) := by decide +kernel
theorem dX0_measure_142 : decode cX0_measure 142 = .ok (.isub, 1) := by decide +kernel
theorem dX0_measure_143 : decode cX0_measure 143 = .ok (.iaload, 1) := by decide +kernel
theorem dX0_measure_144 : decode cX0_measure 144 = .ok (.istore 8, 2) := by decide +kernel
theorem dX0_measure_146 : decode cX0_measure 146 = .ok (.aload_n 0, 1) := by decide +kernel
theorem dX0_measure_147 : decode cX0_measure 147 = .ok (.getfield 27, 3) := by decide +kernel
theorem dX0_measure_150 : decode cX0_measure 150 = .ok (.iload 5, 2) := by decide +kernel
theorem dX0_measure_152 : decode cX0_measure 152 = .ok (.iconst 1, 1) := by decide +kernel
theorem dX0_measure_153 : decode cX0_measure 153 = .ok (.isub, 1) := by decide +kernel
theorem dX0_measure_154 : decode cX0_measure 154 = .ok (.aaload, 1) := by decide +kernel
theorem dX0_measure_155 : decode cX0_measure 155 = .ok (.iload 7, 2) := by decide +kernel
theorem dX0_measure_157 : decode cX0_measure 157 = .ok (.iconst 1, 1) := by decide +kernel
theorem dX0_measure_158 : decode cX0_measure 158 = .ok (.isub, 1) := by decide +kernel
theorem dX0_measure_159 : decode cX0_measure 159 = .ok (.iaload, 1) := by decide +kernel
theorem dX0_measure_160 : decode cX0_measure 160 = .ok (.iload 6, 2) := by decide +kernel
theorem dX0_measure_162 : decode cX0_measure 162 = .ok (.iload 8, 2) := by decide +kernel
theorem dX0_measure_164 : decode cX0_measure 164 = .ok (.invokestatic 64, 3) := by decide +kernel
theorem dX0_measure_167 : decode cX0_measure 167 = .ok (.iadd, 1) := by decide +kernel
theorem dX0_measure_168 : decode cX0_measure 168 = .ok (.istore 9, 2) := by decide +kernel
theorem dX0_measure_170 : decode cX0_measure 170 = .ok (.aload_n 0, 1) := by decide +kernel
theorem dX0_measure_171 : decode cX0_measure 171 = .ok (.getfield 27, 3) := by decide +kernel
theorem dX0_measure_174 : decode cX0_measure 174 = .ok (.iload 5, 2) := by decide +kernel
theorem dX0_measure_176 : decode cX0_measure 176 = .ok (.iconst 1, 1) := by decide +kernel
theorem dX0_measure_177 : decode cX0_measure 177 = .ok (.isub, 1) := by decide +kernel
theorem dX0_measure_178 : decode cX0_measure 178 = .ok (.aaload, 1) := by decide +kernel
theorem dX0_measure_179 : decode cX0_measure 179 = .ok (.iload 7, 2) := by decide +kernel
theorem dX0_measure_181 : decode cX0_measure 181 = .ok (.iaload, 1) := by decide +kernel
theorem dX0_measure_182 : decode cX0_measure 182 = .ok (.iload 6, 2) := by decide +kernel
theorem dX0_measure_184 : decode cX0_measure 184 = .ok (.invokestatic 61, 3) := by decide +kernel
theorem dX0_measure_187 : decode cX0_measure 187 = .ok (.iadd, 1) := by decide +kernel
theorem dX0_measure_188 : decode cX0_measure 188 = .ok (.istore 10, 2) := by decide +kernel
theorem dX0_measure_190 : decode cX0_measure 190 = .ok (.aload_n 0, 1) := by decide +kernel
theorem dX0_measure_191 : decode cX0_measure 191 = .ok (.getfield 27, 3) := by decide +kernel
theorem dX0_measure_194 : decode cX0_measure 194 = .ok (.iload 5, 2) := by decide +kernel
theorem dX0_measure_196 : decode cX0_measure 196 = .ok (.aaload, 1) := by decide +kernel
theorem dX0_measure_197 : decode cX0_measure 197 = .ok (.iload 7, 2) := by decide +kernel
theorem dX0_measure_199 : decode cX0_measure 199 = .ok (.iconst 1, 1) := by decide +kernel
theorem dX0_measure_200 : decode cX0_measure 200 = .ok (.isub, 1) := by decide +kernel
theorem dX0_measure_201 : decode cX0_measure 201 = .ok (.iaload, 1) := by decide +kernel
theorem dX0_measure_202 : decode cX0_measure 202 = .ok (.iload 8, 2) := by decide +kernel
theorem dX0_measure_204 : decode cX0_measure 204 = .ok (.invokestatic 61, 3) := by decide +kernel
theorem dX0_measure_207 : decode cX0_measure 207 = .ok (.iadd, 1) := by decide +kernel
theorem dX0_measure_208 : decode cX0_measure 208 = .ok (.istore 11, 2) := by decide +kernel
theorem dX0_measure_210 : decode cX0_measure 210 = .ok (.aload_n 0, 1) := by decide +kernel
theorem dX0_measure_211 : decode cX0_measure 211 = .ok (.getfield 27, 3) := by decide +kernel
theorem dX0_measure_214 : decode cX0_measure 214 = .ok (.iload 5, 2) := by decide +kernel
theorem dX0_measure_216 : decode cX0_measure 216 = .ok (.aaload, 1) := by decide +kernel
theorem dX0_measure_217 : decode cX0_measure 217 = .ok (.iload 7, 2) := by decide +kernel
theorem dX0_measure_219 : decode cX0_measure 219 = .ok (.iload 9, 2) := by decide +kernel
theorem dX0_measure_221 : decode cX0_measure 221 = .ok (.iload 10, 2) := by decide +kernel
theorem dX0_measure_223 : decode cX0_measure 223 = .ok (.iload 11, 2) := by decide +kernel
theorem dX0_measure_225 : decode cX0_measure 225 = .ok (.invokestatic 67, 3) := by decide +kernel
theorem dX0_measure_228 : decode cX0_measure 228 = .ok (.invokestatic 67, 3) := by decide +kernel
theorem dX0_measure_231 : decode cX0_measure 231 = .ok (.iastore, 1) := by decide +kernel
theorem dX0_measure_232 : decode cX0_measure 232 = .ok (.iinc 7 1, 3) := by decide +kernel
theorem dX0_measure_235 : decode cX0_measure 235 = .ok (.goto (-109), 3) := by decide +kernel
theorem dX0_measure_238 : decode cX0_measure 238 = .ok (.iinc 5 1, 3) := by decide +kernel
theorem dX0_measure_241 : decode cX0_measure 241 = .ok (.goto (-163), 3) := by decide +kernel
theorem dX0_measure_244 : decode cX0_measure 244 = .ok (.aload_n 0, 1) := by decide +kernel
theorem dX0_measure_245 : decode cX0_measure 245 = .ok (.getfield 27, 3) := by decide +kernel
theorem dX0_measure_248 : decode cX0_measure 248 = .ok (.aload_n 0, 1) := by decide +kernel
theorem dX0_measure_249 : decode cX0_measure 249 = .ok (.getfield 16, 3) := by decide +kernel
theorem dX0_measure_252 : decode cX0_measure 252 = .ok (.iload_n 1, 1) := by decide +kernel
theorem dX0_measure_253 : decode cX0_measure 253 = .ok (.iaload, 1) := by decide +kernel
theorem dX0_measure_254 : decode cX0_measure 254 = .ok (.aaload, 1) := by decide +kernel
theorem dX0_measure_255 : decode cX0_measure 255 = .ok (.aload_n 0, 1) := by decide +kernel
theorem dX0_measure_256 : decode cX0_measure 256 = .ok (.getfield 16, 3) := by decide +kernel
theorem dX0_measure_259 : decode cX0_measure 259 = .ok (.iload_n 2, 1) := by decide +kernel
theorem dX0_measure_260 : decode cX0_measure 260 = .ok (.iaload, 1) := by decide +kernel
theorem dX0_measure_261 : decode cX0_measure 261 = .ok (.iaload, 1) := by decide +kernel
theorem dX0_measure_262 : decode cX0_measure 262 = .ok (.ireturn, 1) := by decide +kernel
theorem dX0_costOfOne_0 : decode cX0_costOfOne 0 = .ok (.iload_n 0, 1) := by decide +kernel
theorem dX0_costOfOne_1 : decode cX0_costOfOne 1 = .ok (.ifCond .ne 7, 3) := by decide +kernel
theorem dX0_costOfOne_4 : decode cX0_costOfOne 4 = .ok (.iconst 1, 1) := by decide +kernel
theorem dX0_costOfOne_5 : decode cX0_costOfOne 5 = .ok (.goto 4, 3) := by decide +kernel
theorem dX0_costOfOne_8 : decode cX0_costOfOne 8 = .ok (.iconst 2, 1) := by decide +kernel
theorem dX0_costOfOne_9 : decode cX0_costOfOne 9 = .ok (.ireturn, 1) := by decide +kernel
theorem dX0_costOfChange_0 : decode cX0_costOfChange 0 = .ok (.iload_n 0, 1) := by decide +kernel
theorem dX0_costOfChange_1 : decode cX0_costOfChange 1 = .ok (.iload_n 1, 1) := by decide +kernel
theorem dX0_costOfChange_2 : decode cX0_costOfChange 2 = .ok (.if_icmp .ne 5, 3) := by decide +kernel
theorem dX0_costOfChange_5 : decode cX0_costOfChange 5 = .ok (.iconst 0, 1) := by decide +kernel
theorem dX0_costOfChange_6 : decode cX0_costOfChange 6 = .ok (.ireturn, 1) := by decide +kernel
theorem dX0_costOfChange_7 : decode cX0_costOfChange 7 = .ok (.iload_n 0, 1) := by decide +kernel
theorem dX0_costOfChange_8 : decode cX0_costOfChange 8 = .ok (.ifCond .eq 7, 3) := by decide +kernel
theorem dX0_costOfChange_11 : decode cX0_costOfChange 11 = .ok (.iload_n 1, 1) := by decide +kernel
theorem dX0_costOfChange_12 : decode cX0_costOfChange 12 = .ok (.ifCond .ne 7, 3) := by decide +kernel
theorem dX0_costOfChange_15 : decode cX0_costOfChange 15 = .ok (.iconst 2, 1) := by decide +kernel
theorem dX0_costOfChange_16 : decode cX0_costOfChange 16 = .ok (.goto 4, 3) := by decide +kernel
theorem dX0_costOfChange_19 : decode cX0_costOfChange 19 = .ok (.iconst 3, 1) := by decide +kernel
theorem dX0_costOfChange_20 : decode cX0_costOfChange 20 = .ok (.ireturn, 1) := by decide +kernel
theorem dX1_init_0 : decode cX1_init 0 = .ok (.aload_n 0, 1) := by decide +kernel
theorem dX1_init_1 : decode cX1_init 1 = .ok (.invokespecial 3, 3) := by decide +kernel
theorem dX1_init_4 : decode cX1_init 4 = .ok (.aload_n 0, 1) := by decide +kernel
theorem dX1_init_5 : decode cX1_init 5 = .ok (.bipush 40, 2) := by decide +kernel
theorem dX1_init_7 : decode cX1_init 7 = .ok (.bipush 40, 2) := by decide +kernel
theorem dX1_init_9 : decode cX1_init 9 = .ok (.multianewarray 9 2, 4) := by decide +kernel
theorem dX1_init_13 : decode cX1_init 13 = .ok (.putfield 11, 3) := by decide +kernel
theorem dX1_init_16 : decode cX1_init 16 = .ok (.aload_n 0, 1) := by decide +kernel
theorem dX1_init_17 : decode cX1_init 17 = .ok (.bipush 40, 2) := by decide +kernel
theorem dX1_init_19 : decode cX1_init 19 = .ok (.newarray .int, 2) := by decide +kernel
theorem dX1_init_21 : decode cX1_init 21 = .ok (.putfield 16, 3) := by decide +kernel
theorem dX1_init_24 : decode cX1_init 24 = .ok (.aload_n 0, 1) := by decide +kernel
theorem dX1_init_25 : decode cX1_init 25 = .ok (.bipush 40, 2) := by decide +kernel
theorem dX1_init_27 : decode cX1_init 27 = .ok (.newarray .int, 2) := by decide +kernel
theorem dX1_init_29 : decode cX1_init 29 = .ok (.putfield 20, 3) := by decide +kernel
theorem dX1_init_32 : decode cX1_init 32 = .ok (.aload_n 0, 1) := by decide +kernel
theorem dX1_init_33 : decode cX1_init 33 = .ok (.bipush 40, 2) := by decide +kernel
theorem dX1_init_35 : decode cX1_init 35 = .ok (.newarray .int, 2) := by decide +kernel
theorem dX1_init_37 : decode cX1_init 37 = .ok (.putfield 23, 3) := by decide +kernel
theorem dX1_init_40 : decode cX1_init 40 = .ok (.aload_n 0, 1) := by decide +kernel
theorem dX1_init_41 : decode cX1_init 41 = .ok (.bipush 41, 2) := by decide +kernel
theorem dX1_init_43 : decode cX1_init 43 = .ok (.newarray .int, 2) := by decide +kernel
theorem dX1_init_45 : decode cX1_init 45 = .ok (.putfield 26, 3) := by decide +kernel
theorem dX1_init_48 : decode cX1_init 48 = .ok (.aload_n 0, 1) := by decide +kernel
theorem dX1_init_49 : decode cX1_init 49 = .ok (.bipush 40, 2) := by decide +kernel
theorem dX1_init_51 : decode cX1_init 51 = .ok (.bipush 40, 2) := by decide +kernel
theorem dX1_init_53 : decode cX1_init 53 = .ok (.multianewarray 9 2, 4) := by decide +kernel
theorem dX1_init_57 : decode cX1_init 57 = .ok (.putfield 29, 3) := by decide +kernel
theorem dX1_init_60 : decode cX1_init 60 = .ok (.aload_n 0, 1) := by decide +kernel
theorem dX1_init_61 : decode cX1_init 61 = .ok (.bipush 40, 2) := by decide +kernel
theorem dX1_init_63 : decode cX1_init 63 = .ok (.bipush 40, 2) := by decide +kernel
theorem dX1_init_65 : decode cX1_init 65 = .ok (.multianewarray 9 2, 4) := by decide +kernel
theorem dX1_init_69 : decode cX1_init 69 = .ok (.putfield 32, 3) := by decide +kernel
theorem dX1_init_72 : decode cX1_init 72 = .ok (.aload_n 0, 1) := by decide +kernel
theorem dX1_init_73 : decode cX1_init 73 = .ok (.iconst 0, 1) := by decide +kernel
theorem dX1_init_74 : decode cX1_init 74 = .ok (.putfield 35, 3) := by decide +kernel
theorem dX1_init_77 : decode cX1_init 77 = .ok (.aload_n 0, 1) := by decide +kernel
theorem dX1_init_78 : decode cX1_init 78 = .ok (.iconst 0, 1) := by decide +kernel
theorem dX1_init_79 : decode cX1_init 79 = .ok (.putfield 39, 3) := by decide +kernel
theorem dX1_init_82 : decode cX1_init 82 = .ok (.aload_n 0, 1) := by decide +kernel
theorem dX1_init_83 : decode cX1_init 83 = .ok (.bipush 6, 2) := by decide +kernel
theorem dX1_init_85 : decode cX1_init 85 = .ok (.putfield 42, 3) := by decide +kernel
theorem dX1_init_88 : decode cX1_init 88 = .ok (.aload_n 0, 1) := by decide +kernel
theorem dX1_init_89 : decode cX1_init 89 = .ok (.iconst 0, 1) := by decide +kernel
theorem dX1_init_90 : decode cX1_init 90 = .ok (.putfield 45, 3) := by decide +kernel
theorem dX1_init_93 : decode cX1_init 93 = .ok (.aload_n 0, 1) := by decide +kernel
theorem dX1_init_94 : decode cX1_init 94 = .ok (.iconst 0, 1) := by decide +kernel
theorem dX1_init_95 : decode cX1_init 95 = .ok (.putfield 48, 3) := by decide +kernel
theorem dX1_init_98 : decode cX1_init 98 = .ok (.aload_n 0, 1) := by decide +kernel
theorem dX1_init_99 : decode cX1_init 99 = .ok (.iconst (-1), 1) := by decide +kernel
theorem dX1_init_100 : decode cX1_init 100 = .ok (.putfield 51, 3) := by decide +kernel
theorem dX1_init_103 : decode cX1_init 103 = .ok (.aload_n 0, 1) := by decide +kernel
theorem dX1_init_104 : decode cX1_init 104 = .ok (.iconst (-1), 1) := by decide +kernel
theorem dX1_init_105 : decode cX1_init 105 = .ok (.putfield 54, 3) := by decide +kernel
theorem dX1_init_108 : decode cX1_init 108 = .ok (.aload_n 0, 1) := by decide +kernel
theorem dX1_init_109 : decode cX1_init 109 = .ok (.iconst (-1), 1) := by decide +kernel
theorem dX1_init_110 : decode cX1_init 110 = .ok (.putfield 57, 3) := by decide +kernel
theorem dX1_init_113 : decode cX1_init 113 = .ok (.return_, 1) := by decide +kernel
theorem dX1_howMany_0 : decode cX1_howMany 0 = .ok (.aload_n 0, 1) := by decide +kernel
theorem dX1_howMany_1 : decode cX1_howMany 1 = .ok (.getfield 39, 3) := by decide +kernel
theorem dX1_howMany_4 : decode cX1_howMany 4 = .ok (.ireturn, 1) := by decide +kernel
theorem dX1_getT_0 : decode cX1_getT 0 = .ok (.aload_n 0, 1) := by decide +kernel
theorem dX1_getT_1 : decode cX1_getT 1 = .ok (.getfield 42, 3) := by decide +kernel
theorem dX1_getT_4 : decode cX1_getT 4 = .ok (.ireturn, 1) := by decide +kernel
theorem dX1_changesDone_0 : decode cX1_changesDone 0 = .ok (.aload_n 0, 1) := by decide +kernel
theorem dX1_changesDone_1 : decode cX1_changesDone 1 = .ok (.getfield 45, 3) := by decide +kernel
theorem dX1_changesDone_4 : decode cX1_changesDone 4 = .ok (.ireturn, 1) := by decide +kernel
theorem dX1_setT_0 : decode cX1_setT 0 = .ok (.iload_n 1, 1) := by decide +kernel
theorem dX1_setT_1 : decode cX1_setT 1 = .ok (.ifCond .lt 9, 3) := by decide +kernel
theorem dX1_setT_4 : decode cX1_setT 4 = .ok (.iload_n 1, 1) := by decide +kernel
theorem dX1_setT_5 : decode cX1_setT 5 = .ok (.bipush 40, 2) := by decide +kernel
theorem dX1_setT_7 : decode cX1_setT 7 = .ok (.if_icmp .le 5, 3) := by decide +kernel
theorem dX1_setT_10 : decode cX1_setT 10 = .ok (.iconst 0, 1) := by decide +kernel
theorem dX1_setT_11 : decode cX1_setT 11 = .ok (.ireturn, 1) := by decide +kernel
theorem dX1_setT_12 : decode cX1_setT 12 = .ok (.aload_n 0, 1) := by decide +kernel
theorem dX1_setT_13 : decode cX1_setT 13 = .ok (.iload_n 1, 1) := by decide +kernel
theorem dX1_setT_14 : decode cX1_setT 14 = .ok (.putfield 42, 3) := by decide +kernel
theorem dX1_setT_17 : decode cX1_setT 17 = .ok (.iconst 1, 1) := by decide +kernel
theorem dX1_setT_18 : decode cX1_setT 18 = .ok (.ireturn, 1) := by decide +kernel
theorem dX1_hasWish_0 : decode cX1_hasWish 0 = .ok (.aload_n 0, 1) := by decide +kernel
theorem dX1_hasWish_1 : decode cX1_hasWish 1 = .ok (.getfield 11, 3) := by decide +kernel
theorem dX1_hasWish_4 : decode cX1_hasWish 4 = .ok (.iload_n 1, 1) := by decide +kernel
theorem dX1_hasWish_5 : decode cX1_hasWish 5 = .ok (.aaload, 1) := by decide +kernel
theorem dX1_hasWish_6 : decode cX1_hasWish 6 = .ok (.iload_n 2, 1) := by decide +kernel
theorem dX1_hasWish_7 : decode cX1_hasWish 7 = .ok (.iaload, 1) := by decide +kernel
theorem dX1_hasWish_8 : decode cX1_hasWish 8 = .ok (.ifCond .eq 7, 3) := by decide +kernel
theorem dX1_hasWish_11 : decode cX1_hasWish 11 = .ok (.iconst 1, 1) := by decide +kernel
theorem dX1_hasWish_12 : decode cX1_hasWish 12 = .ok (.goto 4, 3) := by decide +kernel
theorem dX1_hasWish_15 : decode cX1_hasWish 15 = .ok (.iconst 0, 1) := by decide +kernel
theorem dX1_hasWish_16 : decode cX1_hasWish 16 = .ok (.ireturn, 1) := by decide +kernel
theorem dX1_wish_0 : decode cX1_wish 0 = .ok (.aload_n 0, 1) := by decide +kernel
theorem dX1_wish_1 : decode cX1_wish 1 = .ok (.getfield 11, 3) := by decide +kernel
theorem dX1_wish_4 : decode cX1_wish 4 = .ok (.iload_n 1, 1) := by decide +kernel
theorem dX1_wish_5 : decode cX1_wish 5 = .ok (.aaload, 1) := by decide +kernel
theorem dX1_wish_6 : decode cX1_wish 6 = .ok (.iload_n 2, 1) := by decide +kernel
theorem dX1_wish_7 : decode cX1_wish 7 = .ok (.iload_n 3, 1) := by decide +kernel
theorem dX1_wish_8 : decode cX1_wish 8 = .ok (.iastore, 1) := by decide +kernel
theorem dX1_wish_9 : decode cX1_wish 9 = .ok (.aload_n 0, 1) := by decide +kernel
theorem dX1_wish_10 : decode cX1_wish 10 = .ok (.getfield 11, 3) := by decide +kernel
theorem dX1_wish_13 : decode cX1_wish 13 = .ok (.iload_n 2, 1) := by decide +kernel
theorem dX1_wish_14 : decode cX1_wish 14 = .ok (.aaload, 1) := by decide +kernel
theorem dX1_wish_15 : decode cX1_wish 15 = .ok (.iload_n 1, 1) := by decide +kernel
theorem dX1_wish_16 : decode cX1_wish 16 = .ok (.iload_n 3, 1) := by decide +kernel
theorem dX1_wish_17 : decode cX1_wish 17 = .ok (.iastore, 1) := by decide +kernel
theorem dX1_wish_18 : decode cX1_wish 18 = .ok (.return_, 1) := by decide +kernel
theorem dX1_areTogether_0 : decode cX1_areTogether 0 = .ok (.aload_n 0, 1) := by decide +kernel
theorem dX1_areTogether_1 : decode cX1_areTogether 1 = .ok (.getfield 16, 3) := by decide +kernel
theorem dX1_areTogether_4 : decode cX1_areTogether 4 = .ok (.iload_n 1, 1) := by decide +kernel
theorem dX1_areTogether_5 : decode cX1_areTogether 5 = .ok (.iaload, 1) := by decide +kernel
theorem dX1_areTogether_6 : decode cX1_areTogether 6 = .ok (.aload_n 0, 1) := by decide +kernel
theorem dX1_areTogether_7 : decode cX1_areTogether 7 = .ok (.getfield 16, 3) := by decide +kernel
theorem dX1_areTogether_10 : decode cX1_areTogether 10 = .ok (.iload_n 2, 1) := by decide +kernel
theorem dX1_areTogether_11 : decode cX1_areTogether 11 = .ok (.iaload, 1) := by decide +kernel
theorem dX1_areTogether_12 : decode cX1_areTogether 12 = .ok (.if_icmp .ne 7, 3) := by decide +kernel
theorem dX1_areTogether_15 : decode cX1_areTogether 15 = .ok (.iconst 1, 1) := by decide +kernel
theorem dX1_areTogether_16 : decode cX1_areTogether 16 = .ok (.goto 4, 3) := by decide +kernel
theorem dX1_areTogether_19 : decode cX1_areTogether 19 = .ok (.iconst 0, 1) := by decide +kernel
theorem dX1_areTogether_20 : decode cX1_areTogether 20 = .ok (.ireturn, 1) := by decide +kernel
theorem dX1_leastBeside_0 : decode cX1_leastBeside 0 = .ok (.aload_n 0, 1) := by decide +kernel
theorem dX1_leastBeside_1 : decode cX1_leastBeside 1 = .ok (.getfield 20, 3) := by decide +kernel
theorem dX1_leastBeside_4 : decode cX1_leastBeside 4 = .ok (.aload_n 0, 1) := by decide +kernel
theorem dX1_leastBeside_5 : decode cX1_leastBeside 5 = .ok (.getfield 16, 3) := by decide +kernel
theorem dX1_leastBeside_8 : decode cX1_leastBeside 8 = .ok (.iload_n 1, 1) := by decide +kernel
theorem dX1_leastBeside_9 : decode cX1_leastBeside 9 = .ok (.iaload, 1) := by decide +kernel
theorem dX1_leastBeside_10 : decode cX1_leastBeside 10 = .ok (.iaload, 1) := by decide +kernel
theorem dX1_leastBeside_11 : decode cX1_leastBeside 11 = .ok (.ireturn, 1) := by decide +kernel
theorem dX1_sizeBeside_0 : decode cX1_sizeBeside 0 = .ok (.aload_n 0, 1) := by decide +kernel
theorem dX1_sizeBeside_1 : decode cX1_sizeBeside 1 = .ok (.getfield 23, 3) := by decide +kernel
theorem dX1_sizeBeside_4 : decode cX1_sizeBeside 4 = .ok (.aload_n 0, 1) := by decide +kernel
theorem dX1_sizeBeside_5 : decode cX1_sizeBeside 5 = .ok (.getfield 16, 3) := by decide +kernel
theorem dX1_sizeBeside_8 : decode cX1_sizeBeside 8 = .ok (.iload_n 1, 1) := by decide +kernel
theorem dX1_sizeBeside_9 : decode cX1_sizeBeside 9 = .ok (.iaload, 1) := by decide +kernel
theorem dX1_sizeBeside_10 : decode cX1_sizeBeside 10 = .ok (.iaload, 1) := by decide +kernel
theorem dX1_sizeBeside_11 : decode cX1_sizeBeside 11 = .ok (.ireturn, 1) := by decide +kernel
set_option maxRecDepth 20000 in
theorem ggX1_setBeside_X1_areTogether : GoodIn wsX1_setBeside wsX1_areTogether := goodIn_r _ [6, 7, 8, 9, 10, 11, 12, 13, 14, 15, 16, 17, 18, 19, 20, 21, 22] (by decide +kernel) (by decide +kernel)
set_option maxRecDepth 20000 in
theorem gX1_setBeside_X1_areTogether : GoodIn wsX1_setBeside (wsV RX1 60 RX1 yX1_areTogether wsX1_areTogether) := goodIn_app (goodIn_of _ (by decide +kernel)) ggX1_setBeside_X1_areTogether
theorem dX1_setBeside_0 : decode cX1_setBeside 0 = .ok (.lconst 0, 1) := by decide +kernel
theorem dX1_setBeside_1 : decode cX1_setBeside 1 = .ok (.lstore_n 2, 1) := by decide +kernel
theorem dX1_setBeside_2 : decode cX1_setBeside 2 = .ok (.iconst 0, 1) := by decide +kernel
theorem dX1_setBeside_3 : decode cX1_setBeside 3 = .ok (.istore 4, 2) := by decide +kernel
theorem dX1_setBeside_5 : decode cX1_setBeside 5 = .ok (.iload 4, 2) := by decide +kernel
theorem dX1_setBeside_7 : decode cX1_setBeside 7 = .ok (.aload_n 0, 1) := by decide +kernel
theorem dX1_setBeside_8 : decode cX1_setBeside 8 = .ok (.getfield 35, 3) := by decide +kernel
theorem dX1_setBeside_11 : decode cX1_setBeside 11 = .ok (.if_icmp .ge 26, 3) := by decide +kernel
theorem dX1_setBeside_14 : decode cX1_setBeside 14 = .ok (.aload_n 0, 1) := by decide +kernel
theorem dX1_setBeside_15 : decode cX1_setBeside 15 = .ok (.iload 4, 2) := by decide +kernel
theorem dX1_setBeside_17 : decode cX1_setBeside 17 = .ok (.iload_n 1, 1) := by decide +kernel
theorem dX1_setBeside_18 : decode cX1_setBeside 18 = .ok (.invokevirtual 60, 3) := by decide +kernel
theorem dX1_setBeside_21 : decode cX1_setBeside 21 = .ok (.ifCond .eq 10, 3) := by decide +kernel
theorem dX1_setBeside_24 : decode cX1_setBeside 24 = .ok (.lload_n 2, 1) := by decide +kernel
theorem dX1_setBeside_25 : decode cX1_setBeside 25 = .ok (.lconst 1, 1) := by decide +kernel
theorem dX1_setBeside_26 : decode cX1_setBeside 26 = .ok (.iload 4, 2) := by decide +kernel
theorem dX1_setBeside_28 : decode cX1_setBeside 28 = .ok (.lshl, 1) := by decide +kernel
theorem dX1_setBeside_29 : decode cX1_setBeside 29 = .ok (.lor, 1) := by decide +kernel
theorem dX1_setBeside_30 : decode cX1_setBeside 30 = .ok (.lstore_n 2, 1) := by decide +kernel
theorem dX1_setBeside_31 : decode cX1_setBeside 31 = .ok (.iinc 4 1, 3) := by decide +kernel
theorem dX1_setBeside_34 : decode cX1_setBeside 34 = .ok (.goto (-29), 3) := by decide +kernel
theorem dX1_setBeside_37 : decode cX1_setBeside 37 = .ok (.lload_n 2, 1) := by decide +kernel
theorem dX1_setBeside_38 : decode cX1_setBeside 38 = .ok (.lreturn, 1) := by decide +kernel
set_option maxRecDepth 20000 in
theorem ggX1_costOfPair_X0_between : GoodIn wsX1_costOfPair wsX0_between := goodIn_r _ [11, 12, 34, 35, 36, 37, 38] (by decide +kernel) (by decide +kernel)
set_option maxRecDepth 20000 in
theorem gX1_costOfPair_X0_between : GoodIn wsX1_costOfPair (wsV RX1 64 RX0 yX0_between wsX0_between) := goodIn_app (goodIn_of _ (by decide +kernel)) ggX1_costOfPair_X0_between
set_option maxRecDepth 20000 in
theorem ggX1_costOfPair_X1_areTogether : GoodIn wsX1_costOfPair wsX1_areTogether := goodIn_r _ [17, 18, 19, 20, 21, 22, 23, 24, 25, 26, 27, 28, 29, 30, 31, 32, 33] (by decide +kernel) (by decide +kernel)
set_option maxRecDepth 20000 in
theorem gX1_costOfPair_X1_areTogether : GoodIn wsX1_costOfPair (wsV RX1 60 RX1 yX1_areTogether wsX1_areTogether) := goodIn_app (goodIn_of _ (by decide +kernel)) ggX1_costOfPair_X1_areTogether
theorem dX1_costOfPair_0 : decode cX1_costOfPair 0 = .ok (.aload_n 3, 1) := by decide +kernel
theorem dX1_costOfPair_1 : decode cX1_costOfPair 1 = .ok (.iload_n 1, 1) := by decide +kernel
theorem dX1_costOfPair_2 : decode cX1_costOfPair 2 = .ok (.iload_n 2, 1) := by decide +kernel
theorem dX1_costOfPair_3 : decode cX1_costOfPair 3 = .ok (.invokevirtual 64, 3) := by decide +kernel
theorem dX1_costOfPair_6 : decode cX1_costOfPair 6 = .ok (.aload_n 0, 1) := by decide +kernel
theorem dX1_costOfPair_7 : decode cX1_costOfPair 7 = .ok (.getfield 42, 3) := by decide +kernel
theorem dX1_costOfPair_10 : decode cX1_costOfPair 10 = .ok (.isub, 1) := by decide +kernel
theorem dX1_costOfPair_11 : decode cX1_costOfPair 11 = .ok (.istore 4, 2) := by decide +kernel
theorem dX1_costOfPair_13 : decode cX1_costOfPair 13 = .ok (.aload_n 0, 1) := by decide +kernel
theorem dX1_costOfPair_14 : decode cX1_costOfPair 14 = .ok (.getfield 11, 3) := by decide +kernel
theorem dX1_costOfPair_17 : decode cX1_costOfPair 17 = .ok (.iload_n 1, 1) := by decide +kernel
theorem dX1_costOfPair_18 : decode cX1_costOfPair 18 = .ok (.aaload, 1) := by decide +kernel
theorem dX1_costOfPair_19 : decode cX1_costOfPair 19 = .ok (.iload_n 2, 1) := by decide +kernel
theorem dX1_costOfPair_20 : decode cX1_costOfPair 20 = .ok (.iaload, 1) := by decide +kernel
theorem dX1_costOfPair_21 : decode cX1_costOfPair 21 = .ok (.istore 5, 2) := by decide +kernel
theorem dX1_costOfPair_23 : decode cX1_costOfPair 23 = .ok (.aload_n 0, 1) := by decide +kernel
theorem dX1_costOfPair_24 : decode cX1_costOfPair 24 = .ok (.iload_n 1, 1) := by decide +kernel
theorem dX1_costOfPair_25 : decode cX1_costOfPair 25 = .ok (.iload_n 2, 1) := by decide +kernel
theorem dX1_costOfPair_26 : decode cX1_costOfPair 26 = .ok (.invokevirtual 60, 3) := by decide +kernel
theorem dX1_costOfPair_29 : decode cX1_costOfPair 29 = .ok (.ifCond .eq 17, 3) := by decide +kernel
theorem dX1_costOfPair_32 : decode cX1_costOfPair 32 = .ok (.iload 4, 2) := by decide +kernel
theorem dX1_costOfPair_34 : decode cX1_costOfPair 34 = .ok (.iconst 0, 1) := by decide +kernel
theorem dX1_costOfPair_35 : decode cX1_costOfPair 35 = .ok (.invokestatic 70, 3) := by decide +kernel
theorem dX1_costOfPair_38 : decode cX1_costOfPair 38 = .ok (.iload 5, 2) := by decide +kernel
theorem dX1_costOfPair_40 : decode cX1_costOfPair 40 = .ok (.iconst 0, 1) := by decide +kernel
theorem dX1_costOfPair_41 : decode cX1_costOfPair 41 = .ok (.invokestatic 70, 3) := by decide +kernel
theorem dX1_costOfPair_44 : decode cX1_costOfPair 44 = .ok (.iadd, 1) := by decide +kernel
theorem dX1_costOfPair_45 : decode cX1_costOfPair 45 = .ok (.ireturn, 1) := by decide +kernel
theorem dX1_costOfPair_46 : decode cX1_costOfPair 46 = .ok (.iload 4, 2) := by decide +kernel
theorem dX1_costOfPair_48 : decode cX1_costOfPair 48 = .ok (.ineg, 1) := by decide +kernel
theorem dX1_costOfPair_49 : decode cX1_costOfPair 49 = .ok (.iconst 0, 1) := by decide +kernel
theorem dX1_costOfPair_50 : decode cX1_costOfPair 50 = .ok (.invokestatic 70, 3) := by decide +kernel
theorem dX1_costOfPair_53 : decode cX1_costOfPair 53 = .ok (.iload 5, 2) := by decide +kernel
theorem dX1_costOfPair_55 : decode cX1_costOfPair 55 = .ok (.ineg, 1) := by decide +kernel
theorem dX1_costOfPair_56 : decode cX1_costOfPair 56 = .ok (.iconst 0, 1) := by decide +kernel
theorem dX1_costOfPair_57 : decode cX1_costOfPair 57 = .ok (.invokestatic 70, 3) := by decide +kernel
theorem dX1_costOfPair_60 : decode cX1_costOfPair 60 = .ok (.iadd, 1) := by decide +kernel
theorem dX1_costOfPair_61 : decode cX1_costOfPair 61 = .ok (.ireturn, 1) := by decide +kernel
set_option maxRecDepth 20000 in
theorem ggX1_costOfAll_X1_costOfPair : GoodIn wsX1_costOfAll wsX1_costOfPair := goodIn_r _ [6, 7, 8, 9, 10, 11, 12, 13, 14, 15, 16, 17, 18, 19, 20, 21, 5, 22, 23, 24, 25, 26, 27, 28, 29, 30, 31, 32, 33, 34, 35, 36, 37, 38, 39, 40, 41, 42, 43] (by decide +kernel) (by decide +kernel)
set_option maxRecDepth 20000 in
theorem gX1_costOfAll_X1_costOfPair : GoodIn wsX1_costOfAll (wsV RX1 75 RX1 yX1_costOfPair wsX1_costOfPair) := goodIn_app (goodIn_of _ (by decide +kernel)) ggX1_costOfAll_X1_costOfPair
theorem dX1_costOfAll_0 : decode cX1_costOfAll 0 = .ok (.iconst 0, 1) := by decide +kernel
theorem dX1_costOfAll_1 : decode cX1_costOfAll 1 = .ok (.istore_n 2, 1) := by decide +kernel
theorem dX1_costOfAll_2 : decode cX1_costOfAll 2 = .ok (.iconst 0, 1) := by decide +kernel
theorem dX1_costOfAll_3 : decode cX1_costOfAll 3 = .ok (.istore_n 3, 1) := by decide +kernel
theorem dX1_costOfAll_4 : decode cX1_costOfAll 4 = .ok (.iload_n 3, 1) := by decide +kernel
theorem dX1_costOfAll_5 : decode cX1_costOfAll 5 = .ok (.aload_n 0, 1) := by decide +kernel
theorem dX1_costOfAll_6 : decode cX1_costOfAll 6 = .ok (.getfield 35, 3) := by decide +kernel
theorem dX1_costOfAll_9 : decode cX1_costOfAll 9 = .ok (.if_icmp .ge 35, 3) := by decide +kernel
theorem dX1_costOfAll_12 : decode cX1_costOfAll 12 = .ok (.iconst 0, 1) := by decide +kernel
theorem dX1_costOfAll_13 : decode cX1_costOfAll 13 = .ok (.istore 4, 2) := by decide +kernel
theorem dX1_costOfAll_15 : decode cX1_costOfAll 15 = .ok (.iload 4, 2) := by decide +kernel
theorem dX1_costOfAll_17 : decode cX1_costOfAll 17 = .ok (.iload_n 3, 1) := by decide +kernel
theorem dX1_costOfAll_18 : decode cX1_costOfAll 18 = .ok (.if_icmp .ge 20, 3) := by decide +kernel
theorem dX1_costOfAll_21 : decode cX1_costOfAll 21 = .ok (.iload_n 2, 1) := by decide +kernel
theorem dX1_costOfAll_22 : decode cX1_costOfAll 22 = .ok (.aload_n 0, 1) := by decide +kernel
theorem dX1_costOfAll_23 : decode cX1_costOfAll 23 = .ok (.iload_n 3, 1) := by decide +kernel
theorem dX1_costOfAll_24 : decode cX1_costOfAll 24 = .ok (.iload 4, 2) := by decide +kernel
theorem dX1_costOfAll_26 : decode cX1_costOfAll 26 = .ok (.aload_n 1, 1) := by decide +kernel
theorem dX1_costOfAll_27 : decode cX1_costOfAll 27 = .ok (.invokevirtual 75, 3) := by decide +kernel
theorem dX1_costOfAll_30 : decode cX1_costOfAll 30 = .ok (.iadd, 1) := by decide +kernel
theorem dX1_costOfAll_31 : decode cX1_costOfAll 31 = .ok (.istore_n 2, 1) := by decide +kernel
theorem dX1_costOfAll_32 : decode cX1_costOfAll 32 = .ok (.iinc 4 1, 3) := by decide +kernel
theorem dX1_costOfAll_35 : decode cX1_costOfAll 35 = .ok (.goto (-20), 3) := by decide +kernel
theorem dX1_costOfAll_38 : decode cX1_costOfAll 38 = .ok (.iinc 3 1, 3) := by decide +kernel
theorem dX1_costOfAll_41 : decode cX1_costOfAll 41 = .ok (.goto (-37), 3) := by decide +kernel
theorem dX1_costOfAll_44 : decode cX1_costOfAll 44 = .ok (.iload_n 2, 1) := by decide +kernel
theorem dX1_costOfAll_45 : decode cX1_costOfAll 45 = .ok (.ireturn, 1) := by decide +kernel
set_option maxRecDepth 20000 in
theorem ggX1_addAlone_X1_numberAnew : GoodIn wsX1_addAlone wsX1_numberAnew := goodIn_r _ [8, 9, 3, 1, 2, 10, 11, 12, 13, 14, 15, 16, 17, 18, 19, 20, 21, 22, 23, 24, 25, 26, 27, 28, 29, 30] (by decide +kernel) (by decide +kernel)
set_option maxRecDepth 20000 in
theorem gX1_addAlone_X1_numberAnew : GoodIn wsX1_addAlone (wsV RX1 79 RX1 yX1_numberAnew wsX1_numberAnew) := goodIn_app (goodIn_of _ (by decide +kernel)) ggX1_addAlone_X1_numberAnew
theorem dX1_addAlone_0 : decode cX1_addAlone 0 = .ok (.aload_n 0, 1) := by decide +kernel
theorem dX1_addAlone_1 : decode cX1_addAlone 1 = .ok (.getfield 35, 3) := by decide +kernel
theorem dX1_addAlone_4 : decode cX1_addAlone 4 = .ok (.bipush 40, 2) := by decide +kernel
theorem dX1_addAlone_6 : decode cX1_addAlone 6 = .ok (.if_icmp .ge 30, 3) := by decide +kernel
theorem dX1_addAlone_9 : decode cX1_addAlone 9 = .ok (.aload_n 0, 1) := by decide +kernel
theorem dX1_addAlone_10 : decode cX1_addAlone 10 = .ok (.getfield 16, 3) := by decide +kernel
theorem dX1_addAlone_13 : decode cX1_addAlone 13 = .ok (.aload_n 0, 1) := by decide +kernel
theorem dX1_addAlone_14 : decode cX1_addAlone 14 = .ok (.getfield 35, 3) := by decide +kernel
theorem dX1_addAlone_17 : decode cX1_addAlone 17 = .ok (.aload_n 0, 1) := by decide +kernel
theorem dX1_addAlone_18 : decode cX1_addAlone 18 = .ok (.getfield 39, 3) := by decide +kernel
theorem dX1_addAlone_21 : decode cX1_addAlone 21 = .ok (.iastore, 1) := by decide +kernel
theorem dX1_addAlone_22 : decode cX1_addAlone 22 = .ok (.aload_n 0, 1) := by decide +kernel
theorem dX1_addAlone_23 : decode cX1_addAlone 23 = .ok (.dup, 1) := by decide +kernel
theorem dX1_addAlone_24 : decode cX1_addAlone 24 = .ok (.getfield 35, 3) := by decide +kernel
theorem dX1_addAlone_27 : decode cX1_addAlone 27 = .ok (.iconst 1, 1) := by decide +kernel
theorem dX1_addAlone_28 : decode cX1_addAlone 28 = .ok (.iadd, 1) := by decide +kernel
theorem dX1_addAlone_29 : decode cX1_addAlone 29 = .ok (.putfield 35, 3) := by decide +kernel
theorem dX1_addAlone_32 : decode cX1_addAlone 32 = .ok (.aload_n 0, 1) := by decide +kernel
theorem dX1_addAlone_33 : decode cX1_addAlone 33 = .ok (.invokevirtual 79, 3) := by decide +kernel
theorem dX1_addAlone_36 : decode cX1_addAlone 36 = .ok (.return_, 1) := by decide +kernel
set_option maxRecDepth 20000 in
theorem ggX1_partAll_X1_numberAnew : GoodIn wsX1_partAll wsX1_numberAnew := goodIn_r _ [7, 8, 9, 1, 2, 10, 11, 12, 13, 14, 15, 16, 17, 18, 19, 20, 21, 22, 23, 24, 25, 26, 27, 28, 29, 30] (by decide +kernel) (by decide +kernel)
set_option maxRecDepth 20000 in
theorem gX1_partAll_X1_numberAnew : GoodIn wsX1_partAll (wsV RX1 79 RX1 yX1_numberAnew wsX1_numberAnew) := goodIn_app (goodIn_of _ (by decide +kernel)) ggX1_partAll_X1_numberAnew
theorem dX1_partAll_0 : decode cX1_partAll 0 = .ok (.iconst 0, 1) := by decide +kernel
theorem dX1_partAll_1 : decode cX1_partAll 1 = .ok (.istore_n 1, 1) := by decide +kernel
theorem dX1_partAll_2 : decode cX1_partAll 2 = .ok (.iload_n 1, 1) := by decide +kernel
theorem dX1_partAll_3 : decode cX1_partAll 3 = .ok (.aload_n 0, 1) := by decide +kernel
theorem dX1_partAll_4 : decode cX1_partAll 4 = .ok (.getfield 35, 3) := by decide +kernel
theorem dX1_partAll_7 : decode cX1_partAll 7 = .ok (.if_icmp .ge 16, 3) := by decide +kernel
theorem dX1_partAll_10 : decode cX1_partAll 10 = .ok (.aload_n 0, 1) := by decide +kernel
theorem dX1_partAll_11 : decode cX1_partAll 11 = .ok (.getfield 16, 3) := by decide +kernel
theorem dX1_partAll_14 : decode cX1_partAll 14 = .ok (.iload_n 1, 1) := by decide +kernel
theorem dX1_partAll_15 : decode cX1_partAll 15 = .ok (.iload_n 1, 1) := by decide +kernel
theorem dX1_partAll_16 : decode cX1_partAll 16 = .ok (.iastore, 1) := by decide +kernel
theorem dX1_partAll_17 : decode cX1_partAll 17 = .ok (.iinc 1 1, 3) := by decide +kernel
theorem dX1_partAll_20 : decode cX1_partAll 20 = .ok (.goto (-18), 3) := by decide +kernel
theorem dX1_partAll_23 : decode cX1_partAll 23 = .ok (.aload_n 0, 1) := by decide +kernel
theorem dX1_partAll_24 : decode cX1_partAll 24 = .ok (.invokevirtual 79, 3) := by decide +kernel
theorem dX1_partAll_27 : decode cX1_partAll 27 = .ok (.return_, 1) := by decide +kernel
set_option maxRecDepth 20000 in
theorem ggX1_settle_X1_weighJoining : GoodIn wsX1_settle wsX1_weighJoining := goodIn_r _ [8, 9, 10, 11, 12, 13, 14, 15, 16, 17, 18, 19, 20, 21, 22, 23, 56, 57, 58, 59, 60, 61, 62, 63, 64, 65, 66, 67, 68, 69, 70, 71, 72, 73, 74, 75] (by decide +kernel) (by decide +kernel)
set_option maxRecDepth 20000 in
theorem gX1_settle_X1_weighJoining : GoodIn wsX1_settle (wsV RX1 83 RX1 yX1_weighJoining wsX1_weighJoining) := goodIn_app (goodIn_of _ (by decide +kernel)) ggX1_settle_X1_weighJoining
set_option maxRecDepth 20000 in
theorem ggX1_settle_X1_weighMelting : GoodIn wsX1_settle wsX1_weighMelting := goodIn_r _ [27, 28, 29, 9, 11, 10, 14, 15, 16, 17, 56, 57, 58, 59, 60, 61, 62, 63, 64, 65, 66, 67, 68, 69, 70] (by decide +kernel) (by decide +kernel)
set_option maxRecDepth 20000 in
theorem gX1_settle_X1_weighMelting : GoodIn wsX1_settle (wsV RX1 87 RX1 yX1_weighMelting wsX1_weighMelting) := goodIn_app (goodIn_of _ (by decide +kernel)) ggX1_settle_X1_weighMelting
set_option maxRecDepth 20000 in
theorem ggX1_settle_X1_findBest : GoodIn wsX1_settle wsX1_findBest := goodIn_r _ [33, 2, 9, 28, 29, 34, 35, 36, 37, 38, 39, 7, 40, 11, 10, 41, 42, 43, 44, 45, 56, 57, 58, 59, 60, 61, 62, 63, 64, 65, 66, 67, 68, 69, 70] (by decide +kernel) (by decide +kernel)
set_option maxRecDepth 20000 in
theorem gX1_settle_X1_findBest : GoodIn wsX1_settle (wsV RX1 90 RX1 yX1_findBest wsX1_findBest) := goodIn_app (goodIn_of _ (by decide +kernel)) ggX1_settle_X1_findBest
set_option maxRecDepth 20000 in
theorem ggX1_settle_X1_doBest : GoodIn wsX1_settle wsX1_doBest := goodIn_r _ [49, 34, 11, 36, 9, 35, 50, 51, 52, 7, 53, 54, 28, 55, 41, 14, 15, 16, 17, 56, 57, 58, 59, 60, 61, 62, 63, 64, 65, 66, 67, 68, 69, 70] (by decide +kernel) (by decide +kernel)
set_option maxRecDepth 20000 in
theorem gX1_settle_X1_doBest : GoodIn wsX1_settle (wsV RX1 93 RX1 yX1_doBest wsX1_doBest) := goodIn_app (goodIn_of _ (by decide +kernel)) ggX1_settle_X1_doBest
theorem dX1_settle_0 : decode cX1_settle 0 = .ok (.iconst 0, 1) := by decide +kernel
theorem dX1_settle_1 : decode cX1_settle 1 = .ok (.istore_n 2, 1) := by decide +kernel
theorem dX1_settle_2 : decode cX1_settle 2 = .ok (.iload_n 2, 1) := by decide +kernel
theorem dX1_settle_3 : decode cX1_settle 3 = .ok (.ldc 82, 2) := by decide +kernel
theorem dX1_settle_5 : decode cX1_settle 5 = .ok (.if_icmp .ge 44, 3) := by decide +kernel
theorem dX1_settle_8 : decode cX1_settle 8 = .ok (.aload_n 0, 1) := by decide +kernel
theorem dX1_settle_9 : decode cX1_settle 9 = .ok (.aload_n 1, 1) := by decide +kernel
theorem dX1_settle_10 : decode cX1_settle 10 = .ok (.invokevirtual 83, 3) := by decide +kernel
theorem dX1_settle_13 : decode cX1_settle 13 = .ok (.aload_n 0, 1) := by decide +kernel
theorem dX1_settle_14 : decode cX1_settle 14 = .ok (.invokevirtual 87, 3) := by decide +kernel
theorem dX1_settle_17 : decode cX1_settle 17 = .ok (.aload_n 0, 1) := by decide +kernel
theorem dX1_settle_18 : decode cX1_settle 18 = .ok (.invokevirtual 90, 3) := by decide +kernel
theorem dX1_settle_21 : decode cX1_settle 21 = .ok (.aload_n 0, 1) := by decide +kernel
theorem dX1_settle_22 : decode cX1_settle 22 = .ok (.getfield 48, 3) := by decide +kernel
theorem dX1_settle_25 : decode cX1_settle 25 = .ok (.ifCond .lt 4, 3) := by decide +kernel
theorem dX1_settle_28 : decode cX1_settle 28 = .ok (.return_, 1) := by decide +kernel
theorem dX1_settle_29 : decode cX1_settle 29 = .ok (.aload_n 0, 1) := by decide +kernel
theorem dX1_settle_30 : decode cX1_settle 30 = .ok (.invokevirtual 93, 3) := by decide +kernel
theorem dX1_settle_33 : decode cX1_settle 33 = .ok (.aload_n 0, 1) := by decide +kernel
theorem dX1_settle_34 : decode cX1_settle 34 = .ok (.dup, 1) := by decide +kernel
theorem dX1_settle_35 : decode cX1_settle 35 = .ok (.getfield 45, 3) := by decide +kernel
theorem dX1_settle_38 : decode cX1_settle 38 = .ok (.iconst 1, 1) := by decide +kernel
theorem dX1_settle_39 : decode cX1_settle 39 = .ok (.iadd, 1) := by decide +kernel
theorem dX1_settle_40 : decode cX1_settle 40 = .ok (.putfield 45, 3) := by decide +kernel
theorem dX1_settle_43 : decode cX1_settle 43 = .ok (.iinc 2 1, 3) := by decide +kernel
theorem dX1_settle_46 : decode cX1_settle 46 = .ok (.goto (-44), 3) := by decide +kernel
theorem dX1_settle_49 : decode cX1_settle 49 = .ok (.return_, 1) := by decide +kernel
set_option maxRecDepth 20000 in
theorem ggX1_weighJoining_J7_fill_53178 : GoodIn wsX1_weighJoining wsJ7_fill_53178 := goodIn_r _ [9] (by decide +kernel) (by decide +kernel)
set_option maxRecDepth 20000 in
theorem gX1_weighJoining_J7_fill_53178 : GoodIn wsX1_weighJoining (va_wsS RX1 96 yJ7_fill_53178 wsJ7_fill_53178) := goodIn_app (goodIn_of _ (by decide +kernel)) ggX1_weighJoining_J7_fill_53178
set_option maxRecDepth 20000 in
theorem ggX1_weighJoining_X0_between : GoodIn wsX1_weighJoining wsX0_between := goodIn_r _ [14, 15, 31, 32, 33, 34, 35] (by decide +kernel) (by decide +kernel)
set_option maxRecDepth 20000 in
theorem gX1_weighJoining_X0_between : GoodIn wsX1_weighJoining (wsV RX1 64 RX0 yX0_between wsX0_between) := goodIn_app (goodIn_of _ (by decide +kernel)) ggX1_weighJoining_X0_between
theorem dX1_weighJoining_0 : decode cX1_weighJoining 0 = .ok (.iconst 0, 1) := by decide +kernel
theorem dX1_weighJoining_1 : decode cX1_weighJoining 1 = .ok (.istore_n 2, 1) := by decide +kernel
theorem dX1_weighJoining_2 : decode cX1_weighJoining 2 = .ok (.iload_n 2, 1) := by decide +kernel
theorem dX1_weighJoining_3 : decode cX1_weighJoining 3 = .ok (.aload_n 0, 1) := by decide +kernel
theorem dX1_weighJoining_4 : decode cX1_weighJoining 4 = .ok (.getfield 35, 3) := by decide +kernel
theorem dX1_weighJoining_7 : decode cX1_weighJoining 7 = .ok (.if_icmp .ge 76, 3) := by decide +kernel
