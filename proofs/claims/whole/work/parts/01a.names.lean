def RX0 : String := "FlowletSwitch$Entry"
def TX0 : u_T := fun k => match k with
  | 0 => ("FlowletSwitch$Entry", "valid", "Z", false)
  | 1 => ("FlowletSwitch$Entry", "path", "I", false)
  | 2 => ("FlowletSwitch$Entry", "latest", "I", false)
  | _ => ("FlowletSwitch$Entry", "age", "I", false)
def tyX0 : Nat → FieldType := fun k => match k with
  | 0 => .boolean
  | 1 => .int
  | 2 => .int
  | _ => .int
abbrev wsX00 : List Cond := u_ws RX0 TX0 4
theorem nmX0 : ∀ a, a < 4 → ∀ b, b < 4 → a ≠ b → (TX0 a).2.1 ≠ (TX0 b).2.1 := by decide +kernel
theorem tyX0_ok : ∀ k, k < 4 → parseFieldDescriptor (TX0 k).2.2.1 = some (tyX0 k) := by decide +kernel
abbrev cX0_init : ByteArray := prog_2_method_1_code
def yX0_init : MethodName := ⟨RX0, "<init>", "()V"⟩
abbrev cX0_reset : ByteArray := prog_2_method_2_code
def yX0_reset : MethodName := ⟨RX0, "reset", "()V"⟩
abbrev cX0_copyFrom : ByteArray := prog_2_method_3_code
def yX0_copyFrom : MethodName := ⟨RX0, "copyFrom", "(LFlowletSwitch$Entry;)V"⟩
abbrev cX0_isUnused : ByteArray := prog_2_method_4_code
def yX0_isUnused : MethodName := ⟨RX0, "isUnused", "()Z"⟩
abbrev cX0_take : ByteArray := prog_2_method_5_code
def yX0_take : MethodName := ⟨RX0, "take", "(II)V"⟩
abbrev cX0_growOlder : ByteArray := prog_2_method_6_code
def yX0_growOlder : MethodName := ⟨RX0, "growOlder", "()V"⟩
def RX1 : String := "FlowletSwitch$Flow"
def TX1 : u_T := fun k => match k with
  | 0 => ("FlowletSwitch$Flow", "flowletCount", "I", false)
  | 1 => ("FlowletSwitch$Flow", "changeCount", "I", false)
  | 2 => ("FlowletSwitch$Flow", "reorderCount", "I", false)
  | 3 => ("FlowletSwitch$Flow", "latestPath", "I", false)
  | _ => ("FlowletSwitch$Flow", "latestArrival", "I", false)
def tyX1 : Nat → FieldType := fun k => match k with
  | 0 => .int
  | 1 => .int
  | 2 => .int
  | 3 => .int
  | _ => .int
abbrev wsX10 : List Cond := u_ws RX1 TX1 5
theorem nmX1 : ∀ a, a < 5 → ∀ b, b < 5 → a ≠ b → (TX1 a).2.1 ≠ (TX1 b).2.1 := by decide +kernel
theorem tyX1_ok : ∀ k, k < 5 → parseFieldDescriptor (TX1 k).2.2.1 = some (tyX1 k) := by decide +kernel
abbrev cX1_init : ByteArray := prog_3_method_1_code
def yX1_init : MethodName := ⟨RX1, "<init>", "()V"⟩
abbrev cX1_reset : ByteArray := prog_3_method_2_code
def yX1_reset : MethodName := ⟨RX1, "reset", "()V"⟩
abbrev cX1_copyFrom : ByteArray := prog_3_method_3_code
def yX1_copyFrom : MethodName := ⟨RX1, "copyFrom", "(LFlowletSwitch$Flow;)V"⟩
abbrev cX1_isOvertakenBy : ByteArray := prog_3_method_4_code
def yX1_isOvertakenBy : MethodName := ⟨RX1, "isOvertakenBy", "(I)Z"⟩
abbrev cX1_deliver : ByteArray := prog_3_method_5_code
def yX1_deliver : MethodName := ⟨RX1, "deliver", "(II)V"⟩
def RX2 : String := "FlowletSwitch$Path"
def TX2 : u_T := fun k => match k with
  | 0 => ("FlowletSwitch$Path", "delay", "I", false)
  | 1 => ("FlowletSwitch$Path", "rate", "I", false)
  | 2 => ("FlowletSwitch$Path", "remoteLevel", "I", false)
  | 3 => ("FlowletSwitch$Path", "register", "I", false)
  | 4 => ("FlowletSwitch$Path", "busyUntil", "I", false)
  | 5 => ("FlowletSwitch$Path", "packetCount", "I", false)
  | 6 => ("FlowletSwitch$Path", "byteCount", "I", false)
  | _ => ("FlowletSwitch$Path", "dropCount", "I", false)
def tyX2 : Nat → FieldType := fun k => match k with
  | 0 => .int
  | 1 => .int
  | 2 => .int
  | 3 => .int
  | 4 => .int
  | 5 => .int
  | 6 => .int
  | _ => .int
abbrev wsX20 : List Cond := u_ws RX2 TX2 8
theorem nmX2 : ∀ a, a < 8 → ∀ b, b < 8 → a ≠ b → (TX2 a).2.1 ≠ (TX2 b).2.1 := by decide +kernel
theorem tyX2_ok : ∀ k, k < 8 → parseFieldDescriptor (TX2 k).2.2.1 = some (tyX2 k) := by decide +kernel
abbrev cX2_init : ByteArray := prog_4_method_1_code
def yX2_init : MethodName := ⟨RX2, "<init>", "()V"⟩
abbrev cX2_reset : ByteArray := prog_4_method_2_code
def yX2_reset : MethodName := ⟨RX2, "reset", "()V"⟩
abbrev cX2_copyFrom : ByteArray := prog_4_method_3_code
def yX2_copyFrom : MethodName := ⟨RX2, "copyFrom", "(LFlowletSwitch$Path;)V"⟩
abbrev cX2_congestion : ByteArray := prog_4_method_4_code
def yX2_congestion : MethodName := ⟨RX2, "congestion", "()I"⟩
abbrev cX2_decay : ByteArray := prog_4_method_5_code
def yX2_decay : MethodName := ⟨RX2, "decay", "(I)V"⟩
abbrev cX2_waitAt : ByteArray := prog_4_method_6_code
def yX2_waitAt : MethodName := ⟨RX2, "waitAt", "(I)I"⟩
abbrev cX2_dropsAt : ByteArray := prog_4_method_7_code
def yX2_dropsAt : MethodName := ⟨RX2, "dropsAt", "(I)Z"⟩
abbrev cX2_ticksToTransmit : ByteArray := prog_4_method_8_code
def yX2_ticksToTransmit : MethodName := ⟨RX2, "ticksToTransmit", "(I)I"⟩
abbrev cX2_ticksToArrive : ByteArray := prog_4_method_9_code
def yX2_ticksToArrive : MethodName := ⟨RX2, "ticksToArrive", "(II)I"⟩
abbrev cX2_transmit : ByteArray := prog_4_method_10_code
def yX2_transmit : MethodName := ⟨RX2, "transmit", "(II)V"⟩
def RX3 : String := "FlowletSwitch$SavedStates"
def TX3 : u_T := fun k => match k with
  | 0 => ("FlowletSwitch$SavedStates", "ring", "[LFlowletSwitch$SwitchState;", true)
  | 1 => ("FlowletSwitch$SavedStates", "next", "I", false)
  | _ => ("FlowletSwitch$SavedStates", "count", "I", false)
def tyX3 : Nat → FieldType := fun k => match k with
  | 0 => .array (.object "FlowletSwitch$SwitchState")
  | 1 => .int
  | _ => .int
abbrev wsX30 : List Cond := u_ws RX3 TX3 3
theorem nmX3 : ∀ a, a < 3 → ∀ b, b < 3 → a ≠ b → (TX3 a).2.1 ≠ (TX3 b).2.1 := by decide +kernel
theorem tyX3_ok : ∀ k, k < 3 → parseFieldDescriptor (TX3 k).2.2.1 = some (tyX3 k) := by decide +kernel
abbrev cX3_init : ByteArray := prog_5_method_1_code
def yX3_init : MethodName := ⟨RX3, "<init>", "()V"⟩
abbrev cX3_push : ByteArray := prog_5_method_2_code
def yX3_push : MethodName := ⟨RX3, "push", "(LFlowletSwitch$SwitchState;)V"⟩
abbrev cX3_popInto : ByteArray := prog_5_method_3_code
def yX3_popInto : MethodName := ⟨RX3, "popInto", "(LFlowletSwitch$SwitchState;)V"⟩
abbrev cX3_discardAll : ByteArray := prog_5_method_4_code
def yX3_discardAll : MethodName := ⟨RX3, "discardAll", "()V"⟩
def RX4 : String := "FlowletSwitch$SwitchState"
def TX4 : u_T := fun k => match k with
  | 0 => ("FlowletSwitch$SwitchState", "pathCount", "I", false)
  | 1 => ("FlowletSwitch$SwitchState", "entryCount", "I", false)
  | 2 => ("FlowletSwitch$SwitchState", "time", "I", false)
  | 3 => ("FlowletSwitch$SwitchState", "mode", "I", false)
  | 4 => ("FlowletSwitch$SwitchState", "detection", "I", false)
  | 5 => ("FlowletSwitch$SwitchState", "gap", "I", false)
  | 6 => ("FlowletSwitch$SwitchState", "shift", "I", false)
  | 7 => ("FlowletSwitch$SwitchState", "generator", "I", false)
  | 8 => ("FlowletSwitch$SwitchState", "turn", "I", false)
  | 9 => ("FlowletSwitch$SwitchState", "paths", "[LFlowletSwitch$Path;", true)
  | 10 => ("FlowletSwitch$SwitchState", "entries", "[LFlowletSwitch$Entry;", true)
  | _ => ("FlowletSwitch$SwitchState", "flows", "[LFlowletSwitch$Flow;", true)
def tyX4 : Nat → FieldType := fun k => match k with
  | 0 => .int
  | 1 => .int
  | 2 => .int
  | 3 => .int
  | 4 => .int
  | 5 => .int
  | 6 => .int
  | 7 => .int
  | 8 => .int
  | 9 => .array (.object "FlowletSwitch$Path")
  | 10 => .array (.object "FlowletSwitch$Entry")
  | _ => .array (.object "FlowletSwitch$Flow")
abbrev wsX40 : List Cond := u_ws RX4 TX4 12
theorem nmX4 : ∀ a, a < 12 → ∀ b, b < 12 → a ≠ b → (TX4 a).2.1 ≠ (TX4 b).2.1 := by decide +kernel
theorem tyX4_ok : ∀ k, k < 12 → parseFieldDescriptor (TX4 k).2.2.1 = some (tyX4 k) := by decide +kernel
abbrev cX4_init : ByteArray := prog_6_method_1_code
def yX4_init : MethodName := ⟨RX4, "<init>", "()V"⟩
abbrev cX4_reset : ByteArray := prog_6_method_2_code
def yX4_reset : MethodName := ⟨RX4, "reset", "(II)V"⟩
abbrev cX4_copyFrom : ByteArray := prog_6_method_3_code
def yX4_copyFrom : MethodName := ⟨RX4, "copyFrom", "(LFlowletSwitch$SwitchState;)V"⟩
abbrev cX4_hasPath : ByteArray := prog_6_method_4_code
def yX4_hasPath : MethodName := ⟨RX4, "hasPath", "(I)Z"⟩
abbrev cX4_pathAt : ByteArray := prog_6_method_5_code
def yX4_pathAt : MethodName := ⟨RX4, "pathAt", "(I)LFlowletSwitch$Path;"⟩
abbrev cX4_hasEntry : ByteArray := prog_6_method_6_code
def yX4_hasEntry : MethodName := ⟨RX4, "hasEntry", "(I)Z"⟩
abbrev cX4_hasTimeFor : ByteArray := prog_6_method_7_code
def yX4_hasTimeFor : MethodName := ⟨RX4, "hasTimeFor", "(I)Z"⟩
abbrev cX4_entryNumber : ByteArray := prog_6_method_8_code
def yX4_entryNumber : MethodName := ⟨RX4, "entryNumber", "(I)I"⟩
abbrev cX4_countFlowsOfEntry : ByteArray := prog_6_method_9_code
def yX4_countFlowsOfEntry : MethodName := ⟨RX4, "countFlowsOfEntry", "(I)I"⟩
abbrev cX4_isInUse : ByteArray := prog_6_method_10_code
def yX4_isInUse : MethodName := ⟨RX4, "isInUse", "(LFlowletSwitch$Entry;)Z"⟩
abbrev cX4_countEntriesInUse : ByteArray := prog_6_method_11_code
def yX4_countEntriesInUse : MethodName := ⟨RX4, "countEntriesInUse", "()I"⟩
abbrev cX4_spreadOfLatencies : ByteArray := prog_6_method_12_code
def yX4_spreadOfLatencies : MethodName := ⟨RX4, "spreadOfLatencies", "(I)I"⟩
abbrev cX4_spreadOfBytes : ByteArray := prog_6_method_13_code
def yX4_spreadOfBytes : MethodName := ⟨RX4, "spreadOfBytes", "()I"⟩
abbrev cX4_letTimePass : ByteArray := prog_6_method_14_code
def yX4_letTimePass : MethodName := ⟨RX4, "letTimePass", "(I)V"⟩
abbrev cX4_decayLoads : ByteArray := prog_6_method_15_code
def yX4_decayLoads : MethodName := ⟨RX4, "decayLoads", "()V"⟩
abbrev cX4_ageEntries : ByteArray := prog_6_method_16_code
def yX4_ageEntries : MethodName := ⟨RX4, "ageEntries", "()V"⟩
abbrev cX4_usesTable : ByteArray := prog_6_method_17_code
def yX4_usesTable : MethodName := ⟨RX4, "usesTable", "()Z"⟩
abbrev cX4_pathFor : ByteArray := prog_6_method_18_code
def yX4_pathFor : MethodName := ⟨RX4, "pathFor", "(I)I"⟩
abbrev cX4_leastCongestedPath : ByteArray := prog_6_method_19_code
def yX4_leastCongestedPath : MethodName := ⟨RX4, "leastCongestedPath", "(I)I"⟩
abbrev cX4_randomPath : ByteArray := prog_6_method_20_code
def yX4_randomPath : MethodName := ⟨RX4, "randomPath", "()I"⟩
abbrev cX4_nextGenerator : ByteArray := prog_6_method_21_code
def yX4_nextGenerator : MethodName := ⟨RX4, "nextGenerator", "()I"⟩
abbrev cX4_sendPacket : ByteArray := prog_6_method_22_code
def yX4_sendPacket : MethodName := ⟨RX4, "sendPacket", "(II)I"⟩
abbrev cX4_noteChoice : ByteArray := prog_6_method_23_code
def yX4_noteChoice : MethodName := ⟨RX4, "noteChoice", "(II)V"⟩
abbrev cX4_noteInTable : ByteArray := prog_6_method_24_code
def yX4_noteInTable : MethodName := ⟨RX4, "noteInTable", "(II)V"⟩
abbrev cX4_wouldOvertake : ByteArray := prog_6_method_25_code
def yX4_wouldOvertake : MethodName := ⟨RX4, "wouldOvertake", "(II)Z"⟩
def RX5 : String := "FlowletSwitch$Trace"
def TX5 : u_T := fun k => match k with
  | 0 => ("FlowletSwitch$Trace", "codes", "[I", true)
  | 1 => ("FlowletSwitch$Trace", "length", "I", false)
  | 2 => ("FlowletSwitch$Trace", "position", "I", false)
  | 3 => ("FlowletSwitch$Trace", "itemIsPacket", "Z", false)
  | 4 => ("FlowletSwitch$Trace", "itemFlow", "I", false)
  | _ => ("FlowletSwitch$Trace", "itemAmount", "I", false)
def tyX5 : Nat → FieldType := fun k => match k with
  | 0 => .array .int
  | 1 => .int
  | 2 => .int
  | 3 => .boolean
  | 4 => .int
  | _ => .int
abbrev wsX50 : List Cond := u_ws RX5 TX5 6
theorem nmX5 : ∀ a, a < 6 → ∀ b, b < 6 → a ≠ b → (TX5 a).2.1 ≠ (TX5 b).2.1 := by decide +kernel
theorem tyX5_ok : ∀ k, k < 6 → parseFieldDescriptor (TX5 k).2.2.1 = some (tyX5 k) := by decide +kernel
abbrev cX5_init : ByteArray := prog_7_method_1_code
def yX5_init : MethodName := ⟨RX5, "<init>", "()V"⟩
abbrev cX5_isFull : ByteArray := prog_7_method_2_code
def yX5_isFull : MethodName := ⟨RX5, "isFull", "()Z"⟩
abbrev cX5_append : ByteArray := prog_7_method_3_code
def yX5_append : MethodName := ⟨RX5, "append", "(I)V"⟩
abbrev cX5_clear : ByteArray := prog_7_method_4_code
def yX5_clear : MethodName := ⟨RX5, "clear", "()V"⟩
abbrev cX5_rewind : ByteArray := prog_7_method_5_code
def yX5_rewind : MethodName := ⟨RX5, "rewind", "()V"⟩
abbrev cX5_errorPosition : ByteArray := prog_7_method_6_code
def yX5_errorPosition : MethodName := ⟨RX5, "errorPosition", "()I"⟩
abbrev cX5_readItem : ByteArray := prog_7_method_7_code
def yX5_readItem : MethodName := ⟨RX5, "readItem", "()Z"⟩
abbrev cX5_readNumber : ByteArray := prog_7_method_8_code
def yX5_readNumber : MethodName := ⟨RX5, "readNumber", "()I"⟩
abbrev cX5_accept : ByteArray := prog_7_method_9_code
def yX5_accept : MethodName := ⟨RX5, "accept", "(C)Z"⟩
abbrev cX5_skipSpaces : ByteArray := prog_7_method_10_code
def yX5_skipSpaces : MethodName := ⟨RX5, "skipSpaces", "()V"⟩
abbrev cX5_isAtEnd : ByteArray := prog_7_method_11_code
def yX5_isAtEnd : MethodName := ⟨RX5, "isAtEnd", "()Z"⟩
abbrev cX5_isDigitHere : ByteArray := prog_7_method_12_code
def yX5_isDigitHere : MethodName := ⟨RX5, "isDigitHere", "()Z"⟩
abbrev cX5_codeHere : ByteArray := prog_7_method_13_code
def yX5_codeHere : MethodName := ⟨RX5, "codeHere", "()I"⟩
def RX6 : String := "FlowletSwitch"
def TX6 : u_T := fun k => match k with
  | 0 => ("FlowletSwitch", "state", "LFlowletSwitch$SwitchState;", true)
  | 1 => ("FlowletSwitch", "savedStates", "LFlowletSwitch$SavedStates;", true)
  | 2 => ("FlowletSwitch", "snapshots", "[LFlowletSwitch$SwitchState;", true)
  | 3 => ("FlowletSwitch", "slotFilled", "[Z", true)
  | _ => ("FlowletSwitch", "trace", "LFlowletSwitch$Trace;", true)
def tyX6 : Nat → FieldType := fun k => match k with
  | 0 => .object "FlowletSwitch$SwitchState"
  | 1 => .object "FlowletSwitch$SavedStates"
  | 2 => .array (.object "FlowletSwitch$SwitchState")
  | 3 => .array .boolean
  | _ => .object "FlowletSwitch$Trace"
abbrev wsX60 : List Cond := u_ws RX6 TX6 5
theorem nmX6 : ∀ a, a < 5 → ∀ b, b < 5 → a ≠ b → (TX6 a).2.1 ≠ (TX6 b).2.1 := by decide +kernel
theorem tyX6_ok : ∀ k, k < 5 → parseFieldDescriptor (TX6 k).2.2.1 = some (tyX6 k) := by decide +kernel
abbrev cX6_init : ByteArray := prog_1_method_1_code
def yX6_init : MethodName := ⟨RX6, "<init>", "()V"⟩
abbrev cX6_configure : ByteArray := prog_1_method_2_code
def yX6_configure : MethodName := ⟨RX6, "configure", "(II)I"⟩
abbrev cX6_setDelay : ByteArray := prog_1_method_3_code
def yX6_setDelay : MethodName := ⟨RX6, "setDelay", "(II)I"⟩
abbrev cX6_setRate : ByteArray := prog_1_method_4_code
def yX6_setRate : MethodName := ⟨RX6, "setRate", "(II)I"⟩
abbrev cX6_setRemoteLevel : ByteArray := prog_1_method_5_code
def yX6_setRemoteLevel : MethodName := ⟨RX6, "setRemoteLevel", "(II)I"⟩
abbrev cX6_setMode : ByteArray := prog_1_method_6_code
def yX6_setMode : MethodName := ⟨RX6, "setMode", "(I)I"⟩
abbrev cX6_setDetection : ByteArray := prog_1_method_7_code
def yX6_setDetection : MethodName := ⟨RX6, "setDetection", "(I)I"⟩
abbrev cX6_setGap : ByteArray := prog_1_method_8_code
def yX6_setGap : MethodName := ⟨RX6, "setGap", "(I)I"⟩
abbrev cX6_setShift : ByteArray := prog_1_method_9_code
def yX6_setShift : MethodName := ⟨RX6, "setShift", "(I)I"⟩
abbrev cX6_setGenerator : ByteArray := prog_1_method_10_code
def yX6_setGenerator : MethodName := ⟨RX6, "setGenerator", "(I)I"⟩
abbrev cX6_advance : ByteArray := prog_1_method_11_code
def yX6_advance : MethodName := ⟨RX6, "advance", "(I)I"⟩
abbrev cX6_send : ByteArray := prog_1_method_12_code
def yX6_send : MethodName := ⟨RX6, "send", "(II)I"⟩
abbrev cX6_now : ByteArray := prog_1_method_13_code
def yX6_now : MethodName := ⟨RX6, "now", "()I"⟩
abbrev cX6_entryOf : ByteArray := prog_1_method_14_code
def yX6_entryOf : MethodName := ⟨RX6, "entryOf", "(I)I"⟩
abbrev cX6_isActive : ByteArray := prog_1_method_15_code
def yX6_isActive : MethodName := ⟨RX6, "isActive", "(I)I"⟩
abbrev cX6_entryPath : ByteArray := prog_1_method_16_code
def yX6_entryPath : MethodName := ⟨RX6, "entryPath", "(I)I"⟩
abbrev cX6_ageBit : ByteArray := prog_1_method_17_code
def yX6_ageBit : MethodName := ⟨RX6, "ageBit", "(I)I"⟩
abbrev cX6_idleTime : ByteArray := prog_1_method_18_code
def yX6_idleTime : MethodName := ⟨RX6, "idleTime", "(I)I"⟩
abbrev cX6_activeEntries : ByteArray := prog_1_method_19_code
def yX6_activeEntries : MethodName := ⟨RX6, "activeEntries", "()I"⟩
abbrev cX6_load : ByteArray := prog_1_method_20_code
def yX6_load : MethodName := ⟨RX6, "load", "(I)I"⟩
abbrev cX6_metric : ByteArray := prog_1_method_21_code
def yX6_metric : MethodName := ⟨RX6, "metric", "(I)I"⟩
abbrev cX6_busyTime : ByteArray := prog_1_method_22_code
def yX6_busyTime : MethodName := ⟨RX6, "busyTime", "(I)I"⟩
abbrev cX6_latency : ByteArray := prog_1_method_23_code
def yX6_latency : MethodName := ⟨RX6, "latency", "(II)I"⟩
abbrev cX6_safeGap : ByteArray := prog_1_method_24_code
def yX6_safeGap : MethodName := ⟨RX6, "safeGap", "(I)I"⟩
abbrev cX6_packets : ByteArray := prog_1_method_25_code
def yX6_packets : MethodName := ⟨RX6, "packets", "(I)I"⟩
abbrev cX6_bytes : ByteArray := prog_1_method_26_code
def yX6_bytes : MethodName := ⟨RX6, "bytes", "(I)I"⟩
abbrev cX6_drops : ByteArray := prog_1_method_27_code
def yX6_drops : MethodName := ⟨RX6, "drops", "(I)I"⟩
abbrev cX6_imbalance : ByteArray := prog_1_method_28_code
def yX6_imbalance : MethodName := ⟨RX6, "imbalance", "()I"⟩
abbrev cX6_nextPath : ByteArray := prog_1_method_29_code
def yX6_nextPath : MethodName := ⟨RX6, "nextPath", "(I)I"⟩
abbrev cX6_wouldReorder : ByteArray := prog_1_method_30_code
def yX6_wouldReorder : MethodName := ⟨RX6, "wouldReorder", "(II)I"⟩
abbrev cX6_flowlets : ByteArray := prog_1_method_31_code
def yX6_flowlets : MethodName := ⟨RX6, "flowlets", "(I)I"⟩
abbrev cX6_pathChanges : ByteArray := prog_1_method_32_code
def yX6_pathChanges : MethodName := ⟨RX6, "pathChanges", "(I)I"⟩
abbrev cX6_reordered : ByteArray := prog_1_method_33_code
def yX6_reordered : MethodName := ⟨RX6, "reordered", "(I)I"⟩
abbrev cX6_lastArrival : ByteArray := prog_1_method_34_code
def yX6_lastArrival : MethodName := ⟨RX6, "lastArrival", "(I)I"⟩
abbrev cX6_appendCharacter : ByteArray := prog_1_method_35_code
def yX6_appendCharacter : MethodName := ⟨RX6, "appendCharacter", "(I)I"⟩
abbrev cX6_clearText : ByteArray := prog_1_method_36_code
def yX6_clearText : MethodName := ⟨RX6, "clearText", "()I"⟩
abbrev cX6_runTrace : ByteArray := prog_1_method_37_code
def yX6_runTrace : MethodName := ⟨RX6, "runTrace", "()I"⟩
abbrev cX6_undo : ByteArray := prog_1_method_38_code
def yX6_undo : MethodName := ⟨RX6, "undo", "()I"⟩
abbrev cX6_save : ByteArray := prog_1_method_39_code
def yX6_save : MethodName := ⟨RX6, "save", "(I)I"⟩
abbrev cX6_restore : ByteArray := prog_1_method_40_code
def yX6_restore : MethodName := ⟨RX6, "restore", "(I)I"⟩
abbrev cX6_isBetween : ByteArray := prog_1_method_41_code
def yX6_isBetween : MethodName := ⟨RX6, "isBetween", "(III)Z"⟩
abbrev cX6_remainder : ByteArray := prog_1_method_42_code
def yX6_remainder : MethodName := ⟨RX6, "remainder", "(II)I"⟩
abbrev cX6_isFlow : ByteArray := prog_1_method_43_code
def yX6_isFlow : MethodName := ⟨RX6, "isFlow", "(I)Z"⟩
abbrev cX6_isSize : ByteArray := prog_1_method_44_code
def yX6_isSize : MethodName := ⟨RX6, "isSize", "(I)Z"⟩
abbrev cX6_runItem : ByteArray := prog_1_method_45_code
def yX6_runItem : MethodName := ⟨RX6, "runItem", "()Z"⟩
def RX7 : String := "FlowletSwitchModel"
def TX7 : u_T := fun k => match k with
  | 0 => ("FlowletSwitchModel", "now", "[I", true)
  | 1 => ("FlowletSwitchModel", "saved", "[I", true)
  | 2 => ("FlowletSwitchModel", "savedCount", "I", false)
  | 3 => ("FlowletSwitchModel", "slots", "[I", true)
  | 4 => ("FlowletSwitchModel", "isFilled", "[Z", true)
  | 5 => ("FlowletSwitchModel", "text", "[I", true)
  | 6 => ("FlowletSwitchModel", "length", "I", false)
  | 7 => ("FlowletSwitchModel", "at", "I", false)
  | 8 => ("FlowletSwitchModel", "items", "I", false)
  | 9 => ("FlowletSwitchModel", "itemFlow", "[I", true)
  | _ => ("FlowletSwitchModel", "itemNumber", "[I", true)
def tyX7 : Nat → FieldType := fun k => match k with
  | 0 => .array .int
  | 1 => .array .int
  | 2 => .int
  | 3 => .array .int
  | 4 => .array .boolean
  | 5 => .array .int
  | 6 => .int
  | 7 => .int
  | 8 => .int
  | 9 => .array .int
  | _ => .array .int
abbrev wsX70 : List Cond := u_ws RX7 TX7 11
theorem nmX7 : ∀ a, a < 11 → ∀ b, b < 11 → a ≠ b → (TX7 a).2.1 ≠ (TX7 b).2.1 := by decide +kernel
theorem tyX7_ok : ∀ k, k < 11 → parseFieldDescriptor (TX7 k).2.2.1 = some (tyX7 k) := by decide +kernel
abbrev cX7_init : ByteArray := prog_9_method_1_code
def yX7_init : MethodName := ⟨RX7, "<init>", "()V"⟩
abbrev cX7_in : ByteArray := prog_9_method_3_code
def yX7_in : MethodName := ⟨RX7, "in", "(III)Z"⟩
abbrev cX7_isPath : ByteArray := prog_9_method_4_code
def yX7_isPath : MethodName := ⟨RX7, "isPath", "(I)Z"⟩
abbrev cX7_isEntry : ByteArray := prog_9_method_5_code
def yX7_isEntry : MethodName := ⟨RX7, "isEntry", "(I)Z"⟩
abbrev cX7_isFlow : ByteArray := prog_9_method_6_code
def yX7_isFlow : MethodName := ⟨RX7, "isFlow", "(I)Z"⟩
abbrev cX7_isSize : ByteArray := prog_9_method_7_code
def yX7_isSize : MethodName := ⟨RX7, "isSize", "(I)Z"⟩
abbrev cX7_makeNew : ByteArray := prog_9_method_8_code
def yX7_makeNew : MethodName := ⟨RX7, "makeNew", "(II)V"⟩
abbrev cX7_keep : ByteArray := prog_9_method_9_code
def yX7_keep : MethodName := ⟨RX7, "keep", "()V"⟩
abbrev cX7_slotOf : ByteArray := prog_9_method_10_code
def yX7_slotOf : MethodName := ⟨RX7, "slotOf", "(I)I"⟩
abbrev cX7_configure : ByteArray := prog_9_method_11_code
def yX7_configure : MethodName := ⟨RX7, "configure", "(II)I"⟩
abbrev cX7_change : ByteArray := prog_9_method_12_code
def yX7_change : MethodName := ⟨RX7, "change", "(II)I"⟩
abbrev cX7_setDelay : ByteArray := prog_9_method_13_code
def yX7_setDelay : MethodName := ⟨RX7, "setDelay", "(II)I"⟩
abbrev cX7_setRate : ByteArray := prog_9_method_14_code
def yX7_setRate : MethodName := ⟨RX7, "setRate", "(II)I"⟩
abbrev cX7_setRemoteLevel : ByteArray := prog_9_method_15_code
def yX7_setRemoteLevel : MethodName := ⟨RX7, "setRemoteLevel", "(II)I"⟩
abbrev cX7_setMode : ByteArray := prog_9_method_16_code
def yX7_setMode : MethodName := ⟨RX7, "setMode", "(I)I"⟩
abbrev cX7_setDetection : ByteArray := prog_9_method_17_code
def yX7_setDetection : MethodName := ⟨RX7, "setDetection", "(I)I"⟩
abbrev cX7_setGap : ByteArray := prog_9_method_18_code
def yX7_setGap : MethodName := ⟨RX7, "setGap", "(I)I"⟩
abbrev cX7_setShift : ByteArray := prog_9_method_19_code
def yX7_setShift : MethodName := ⟨RX7, "setShift", "(I)I"⟩
abbrev cX7_setGenerator : ByteArray := prog_9_method_20_code
def yX7_setGenerator : MethodName := ⟨RX7, "setGenerator", "(I)I"⟩
abbrev cX7_age : ByteArray := prog_9_method_21_code
def yX7_age : MethodName := ⟨RX7, "age", "()V"⟩
abbrev cX7_tick : ByteArray := prog_9_method_22_code
def yX7_tick : MethodName := ⟨RX7, "tick", "()V"⟩
abbrev cX7_pass : ByteArray := prog_9_method_23_code
def yX7_pass : MethodName := ⟨RX7, "pass", "(I)I"⟩
abbrev cX7_whyNotPass : ByteArray := prog_9_method_24_code
def yX7_whyNotPass : MethodName := ⟨RX7, "whyNotPass", "(I)I"⟩
abbrev cX7_advance : ByteArray := prog_9_method_25_code
def yX7_advance : MethodName := ⟨RX7, "advance", "(I)I"⟩
abbrev cX7_isLive : ByteArray := prog_9_method_26_code
def yX7_isLive : MethodName := ⟨RX7, "isLive", "(I)Z"⟩
abbrev cX7_metricOf : ByteArray := prog_9_method_27_code
def yX7_metricOf : MethodName := ⟨RX7, "metricOf", "(I)I"⟩
abbrev cX7_leastLoaded : ByteArray := prog_9_method_28_code
def yX7_leastLoaded : MethodName := ⟨RX7, "leastLoaded", "(I)I"⟩
abbrev cX7_nextGenerator : ByteArray := prog_9_method_29_code
def yX7_nextGenerator : MethodName := ⟨RX7, "nextGenerator", "()I"⟩
abbrev cX7_isByFlowlets : ByteArray := prog_9_method_30_code
def yX7_isByFlowlets : MethodName := ⟨RX7, "isByFlowlets", "()Z"⟩
abbrev cX7_choose : ByteArray := prog_9_method_31_code
def yX7_choose : MethodName := ⟨RX7, "choose", "(I)I"⟩
abbrev cX7_take : ByteArray := prog_9_method_32_code
def yX7_take : MethodName := ⟨RX7, "take", "(II)V"⟩
abbrev cX7_isTooBusy : ByteArray := prog_9_method_33_code
def yX7_isTooBusy : MethodName := ⟨RX7, "isTooBusy", "(I)Z"⟩
abbrev cX7_endOf : ByteArray := prog_9_method_34_code
def yX7_endOf : MethodName := ⟨RX7, "endOf", "(II)I"⟩
abbrev cX7_transmit : ByteArray := prog_9_method_35_code
def yX7_transmit : MethodName := ⟨RX7, "transmit", "(II)I"⟩
abbrev cX7_send : ByteArray := prog_9_method_36_code
def yX7_send : MethodName := ⟨RX7, "send", "(II)I"⟩
abbrev cX7_now : ByteArray := prog_9_method_37_code
def yX7_now : MethodName := ⟨RX7, "now", "()I"⟩
abbrev cX7_entryOf : ByteArray := prog_9_method_38_code
def yX7_entryOf : MethodName := ⟨RX7, "entryOf", "(I)I"⟩
abbrev cX7_isActive : ByteArray := prog_9_method_39_code
def yX7_isActive : MethodName := ⟨RX7, "isActive", "(I)I"⟩
abbrev cX7_entryPath : ByteArray := prog_9_method_40_code
def yX7_entryPath : MethodName := ⟨RX7, "entryPath", "(I)I"⟩
abbrev cX7_ageBit : ByteArray := prog_9_method_41_code
def yX7_ageBit : MethodName := ⟨RX7, "ageBit", "(I)I"⟩
abbrev cX7_idleTime : ByteArray := prog_9_method_42_code
def yX7_idleTime : MethodName := ⟨RX7, "idleTime", "(I)I"⟩
abbrev cX7_activeEntries : ByteArray := prog_9_method_43_code
def yX7_activeEntries : MethodName := ⟨RX7, "activeEntries", "()I"⟩
abbrev cX7_ofPath : ByteArray := prog_9_method_44_code
def yX7_ofPath : MethodName := ⟨RX7, "ofPath", "(II)I"⟩
abbrev cX7_load : ByteArray := prog_9_method_45_code
def yX7_load : MethodName := ⟨RX7, "load", "(I)I"⟩
abbrev cX7_metric : ByteArray := prog_9_method_46_code
def yX7_metric : MethodName := ⟨RX7, "metric", "(I)I"⟩
abbrev cX7_busyTime : ByteArray := prog_9_method_47_code
def yX7_busyTime : MethodName := ⟨RX7, "busyTime", "(I)I"⟩
abbrev cX7_latencyOf : ByteArray := prog_9_method_48_code
def yX7_latencyOf : MethodName := ⟨RX7, "latencyOf", "(II)I"⟩
abbrev cX7_latency : ByteArray := prog_9_method_49_code
def yX7_latency : MethodName := ⟨RX7, "latency", "(II)I"⟩
abbrev cX7_safeGap : ByteArray := prog_9_method_50_code
def yX7_safeGap : MethodName := ⟨RX7, "safeGap", "(I)I"⟩
abbrev cX7_packets : ByteArray := prog_9_method_51_code
def yX7_packets : MethodName := ⟨RX7, "packets", "(I)I"⟩
abbrev cX7_bytes : ByteArray := prog_9_method_52_code
def yX7_bytes : MethodName := ⟨RX7, "bytes", "(I)I"⟩
abbrev cX7_drops : ByteArray := prog_9_method_53_code
def yX7_drops : MethodName := ⟨RX7, "drops", "(I)I"⟩
abbrev cX7_imbalance : ByteArray := prog_9_method_54_code
def yX7_imbalance : MethodName := ⟨RX7, "imbalance", "()I"⟩
abbrev cX7_nextPath : ByteArray := prog_9_method_55_code
def yX7_nextPath : MethodName := ⟨RX7, "nextPath", "(I)I"⟩
abbrev cX7_wouldReorder : ByteArray := prog_9_method_56_code
def yX7_wouldReorder : MethodName := ⟨RX7, "wouldReorder", "(II)I"⟩
abbrev cX7_ofFlow : ByteArray := prog_9_method_57_code
def yX7_ofFlow : MethodName := ⟨RX7, "ofFlow", "(II)I"⟩
abbrev cX7_flowlets : ByteArray := prog_9_method_58_code
def yX7_flowlets : MethodName := ⟨RX7, "flowlets", "(I)I"⟩
abbrev cX7_pathChanges : ByteArray := prog_9_method_59_code
def yX7_pathChanges : MethodName := ⟨RX7, "pathChanges", "(I)I"⟩
abbrev cX7_reordered : ByteArray := prog_9_method_60_code
def yX7_reordered : MethodName := ⟨RX7, "reordered", "(I)I"⟩
abbrev cX7_lastArrival : ByteArray := prog_9_method_61_code
def yX7_lastArrival : MethodName := ⟨RX7, "lastArrival", "(I)I"⟩
abbrev cX7_appendCharacter : ByteArray := prog_9_method_62_code
def yX7_appendCharacter : MethodName := ⟨RX7, "appendCharacter", "(I)I"⟩
abbrev cX7_clearText : ByteArray := prog_9_method_63_code
def yX7_clearText : MethodName := ⟨RX7, "clearText", "()I"⟩
abbrev cX7_sign : ByteArray := prog_9_method_64_code
def yX7_sign : MethodName := ⟨RX7, "sign", "()I"⟩
abbrev cX7_reads : ByteArray := prog_9_method_65_code
def yX7_reads : MethodName := ⟨RX7, "reads", "(I)Z"⟩
abbrev cX7_number : ByteArray := prog_9_method_66_code
def yX7_number : MethodName := ⟨RX7, "number", "()I"⟩
abbrev cX7_readItem : ByteArray := prog_9_method_67_code
def yX7_readItem : MethodName := ⟨RX7, "readItem", "()Z"⟩
abbrev cX7_readText : ByteArray := prog_9_method_68_code
def yX7_readText : MethodName := ⟨RX7, "readText", "()Z"⟩
abbrev cX7_execute : ByteArray := prog_9_method_69_code
def yX7_execute : MethodName := ⟨RX7, "execute", "(I)Z"⟩
abbrev cX7_runTrace : ByteArray := prog_9_method_70_code
def yX7_runTrace : MethodName := ⟨RX7, "runTrace", "()I"⟩
abbrev cX7_undo : ByteArray := prog_9_method_71_code
def yX7_undo : MethodName := ⟨RX7, "undo", "()I"⟩
abbrev cX7_save : ByteArray := prog_9_method_72_code
def yX7_save : MethodName := ⟨RX7, "save", "(I)I"⟩
abbrev cX7_restore : ByteArray := prog_9_method_73_code
def yX7_restore : MethodName := ⟨RX7, "restore", "(I)I"⟩
def RJ9 : String := "java/lang/Math"
abbrev cJ9_max_7cf53 : ByteArray := prog_10_method_65_code
def yJ9_max_7cf53 : MethodName := ⟨RJ9, "max", "(II)I"⟩
abbrev cJ9_min_7cf53 : ByteArray := prog_10_method_69_code
def yJ9_min_7cf53 : MethodName := ⟨RJ9, "min", "(II)I"⟩
def RL : String := "FlowletSwitchLaw"
abbrev cL_law : ByteArray := code
def yL_law : MethodName := ⟨RL, "law", "([I)Z"⟩
abbrev vwCl : List vw_C := [(RX0, TX0, 4), (RX1, TX1, 5), (RX2, TX2, 8), (RX3, TX3, 3), (RX4, TX4, 12), (RX5, TX5, 6), (RX6, TX6, 5), (RX7, TX7, 11)]
def okW (w : Cond) : Bool := w.onTables && w.keepsH
def tbk : List Cond := lw_tbl.filter okW
theorem tb_at {w : Cond} (i : Nat) (h : lw_tbl[i]? = some w) (hk : okW w = true) : w ∈ tbk := List.mem_filter.mpr ⟨List.mem_of_getElem? h, hk⟩
theorem tb_sub {ws : List Cond} (ps : List Nat) (h : ws = ps.filterMap (fun i => lw_tbl[i]?)) (hk : ws.all okW = true) : ∀ w ∈ ws, w ∈ tbk := by
  intro w hw
  have h1 := List.all_eq_true.mp hk w hw
  rw [h] at hw
  obtain ⟨i, -, hi⟩ := List.mem_filterMap.mp hw
  exact tb_at i hi h1
theorem tb_in {w : Cond} (h : w ∈ tbk) : w ∈ lw_tbl ∧ w.onTables = true ∧ w.keepsH = true := by
  obtain ⟨h1, h2⟩ := List.mem_filter.mp h
  simp only [okW, Bool.and_eq_true] at h2
  exact ⟨h1, h2.1, h2.2⟩
set_option maxRecDepth 20000 in
theorem inX0 : ∀ w ∈ wsX00, w ∈ tbk := tb_sub [115, 117, 119, 121] (by decide +kernel) (by decide +kernel)
set_option maxRecDepth 20000 in
theorem inX1 : ∀ w ∈ wsX10, w ∈ tbk := tb_sub [139, 141, 143, 145, 147] (by decide +kernel) (by decide +kernel)
set_option maxRecDepth 20000 in
theorem inX2 : ∀ w ∈ wsX20, w ∈ tbk := tb_sub [82, 84, 86, 88, 90, 92, 94, 96] (by decide +kernel) (by decide +kernel)
set_option maxRecDepth 20000 in
theorem inX3 : ∀ w ∈ wsX30, w ∈ tbk := tb_sub [225, 227, 229] (by decide +kernel) (by decide +kernel)
set_option maxRecDepth 20000 in
theorem inX4 : ∀ w ∈ wsX40, w ∈ tbk := tb_sub [187, 189, 191, 193, 195, 197, 199, 201, 203, 205, 207, 209] (by decide +kernel) (by decide +kernel)
set_option maxRecDepth 20000 in
theorem inX5 : ∀ w ∈ wsX50, w ∈ tbk := tb_sub [248, 250, 252, 254, 256, 258] (by decide +kernel) (by decide +kernel)
set_option maxRecDepth 20000 in
theorem inX6 : ∀ w ∈ wsX60, w ∈ tbk := tb_sub [268, 270, 272, 274, 276] (by decide +kernel) (by decide +kernel)
set_option maxRecDepth 20000 in
theorem inX7 : ∀ w ∈ wsX70, w ∈ tbk := tb_sub [712, 714, 716, 718, 720, 722, 724, 726, 728, 730, 732] (by decide +kernel) (by decide +kernel)
set_option maxRecDepth 20000 in
theorem wS_X6_runItem : Cond.selects RX6 yX6_runItem yX6_runItem ∈ tbk := tb_at 0 (by decide +kernel) rfl
set_option maxRecDepth 20000 in
theorem wS_X7_makeNew : Cond.selects RX7 yX7_makeNew yX7_makeNew ∈ tbk := tb_at 1 (by decide +kernel) rfl
set_option maxRecDepth 20000 in
theorem wS_X7_keep : Cond.selects RX7 yX7_keep yX7_keep ∈ tbk := tb_at 2 (by decide +kernel) rfl
set_option maxRecDepth 20000 in
theorem wS_X7_slotOf : Cond.selects RX7 yX7_slotOf yX7_slotOf ∈ tbk := tb_at 3 (by decide +kernel) rfl
set_option maxRecDepth 20000 in
theorem wS_X7_isPath : Cond.selects RX7 yX7_isPath yX7_isPath ∈ tbk := tb_at 4 (by decide +kernel) rfl
set_option maxRecDepth 20000 in
theorem wS_X7_change : Cond.selects RX7 yX7_change yX7_change ∈ tbk := tb_at 5 (by decide +kernel) rfl
set_option maxRecDepth 20000 in
theorem wS_X7_whyNotPass : Cond.selects RX7 yX7_whyNotPass yX7_whyNotPass ∈ tbk := tb_at 6 (by decide +kernel) rfl
set_option maxRecDepth 20000 in
theorem wS_X7_pass : Cond.selects RX7 yX7_pass yX7_pass ∈ tbk := tb_at 7 (by decide +kernel) rfl
set_option maxRecDepth 20000 in
theorem wS_X7_tick : Cond.selects RX7 yX7_tick yX7_tick ∈ tbk := tb_at 8 (by decide +kernel) rfl
set_option maxRecDepth 20000 in
theorem wS_X7_age : Cond.selects RX7 yX7_age yX7_age ∈ tbk := tb_at 9 (by decide +kernel) rfl
set_option maxRecDepth 20000 in
theorem wS_X7_transmit : Cond.selects RX7 yX7_transmit yX7_transmit ∈ tbk := tb_at 10 (by decide +kernel) rfl
set_option maxRecDepth 20000 in
theorem wS_X7_choose : Cond.selects RX7 yX7_choose yX7_choose ∈ tbk := tb_at 11 (by decide +kernel) rfl
set_option maxRecDepth 20000 in
theorem wS_X7_isLive : Cond.selects RX7 yX7_isLive yX7_isLive ∈ tbk := tb_at 12 (by decide +kernel) rfl
set_option maxRecDepth 20000 in
theorem wS_X7_leastLoaded : Cond.selects RX7 yX7_leastLoaded yX7_leastLoaded ∈ tbk := tb_at 13 (by decide +kernel) rfl
set_option maxRecDepth 20000 in
theorem wS_X7_metricOf : Cond.selects RX7 yX7_metricOf yX7_metricOf ∈ tbk := tb_at 14 (by decide +kernel) rfl
set_option maxRecDepth 20000 in
theorem wS_X7_nextGenerator : Cond.selects RX7 yX7_nextGenerator yX7_nextGenerator ∈ tbk := tb_at 15 (by decide +kernel) rfl
set_option maxRecDepth 20000 in
theorem wS_X7_take : Cond.selects RX7 yX7_take yX7_take ∈ tbk := tb_at 16 (by decide +kernel) rfl
set_option maxRecDepth 20000 in
theorem wS_X7_isByFlowlets : Cond.selects RX7 yX7_isByFlowlets yX7_isByFlowlets ∈ tbk := tb_at 17 (by decide +kernel) rfl
set_option maxRecDepth 20000 in
theorem wS_X7_isTooBusy : Cond.selects RX7 yX7_isTooBusy yX7_isTooBusy ∈ tbk := tb_at 18 (by decide +kernel) rfl
set_option maxRecDepth 20000 in
theorem wS_X7_endOf : Cond.selects RX7 yX7_endOf yX7_endOf ∈ tbk := tb_at 19 (by decide +kernel) rfl
set_option maxRecDepth 20000 in
theorem wS_X7_isEntry : Cond.selects RX7 yX7_isEntry yX7_isEntry ∈ tbk := tb_at 20 (by decide +kernel) rfl
set_option maxRecDepth 20000 in
theorem wS_X7_ofPath : Cond.selects RX7 yX7_ofPath yX7_ofPath ∈ tbk := tb_at 21 (by decide +kernel) rfl
set_option maxRecDepth 20000 in
theorem wS_X7_latencyOf : Cond.selects RX7 yX7_latencyOf yX7_latencyOf ∈ tbk := tb_at 22 (by decide +kernel) rfl
set_option maxRecDepth 20000 in
theorem wS_X7_ofFlow : Cond.selects RX7 yX7_ofFlow yX7_ofFlow ∈ tbk := tb_at 23 (by decide +kernel) rfl
set_option maxRecDepth 20000 in
theorem wS_X7_readText : Cond.selects RX7 yX7_readText yX7_readText ∈ tbk := tb_at 24 (by decide +kernel) rfl
set_option maxRecDepth 20000 in
theorem wS_X7_readItem : Cond.selects RX7 yX7_readItem yX7_readItem ∈ tbk := tb_at 25 (by decide +kernel) rfl
set_option maxRecDepth 20000 in
theorem wS_X7_reads : Cond.selects RX7 yX7_reads yX7_reads ∈ tbk := tb_at 26 (by decide +kernel) rfl
set_option maxRecDepth 20000 in
theorem wS_X7_sign : Cond.selects RX7 yX7_sign yX7_sign ∈ tbk := tb_at 27 (by decide +kernel) rfl
set_option maxRecDepth 20000 in
theorem wS_X7_number : Cond.selects RX7 yX7_number yX7_number ∈ tbk := tb_at 28 (by decide +kernel) rfl
set_option maxRecDepth 20000 in
theorem wS_X7_execute : Cond.selects RX7 yX7_execute yX7_execute ∈ tbk := tb_at 29 (by decide +kernel) rfl
set_option maxRecDepth 20000 in
theorem wN_L : Cond.initialized RL ∈ tbk := tb_at 30 (by decide +kernel) rfl
set_option maxRecDepth 20000 in
theorem wN_X6 : Cond.initialized RX6 ∈ tbk := tb_at 31 (by decide +kernel) rfl
set_option maxRecDepth 20000 in
theorem wN_X4 : Cond.initialized RX4 ∈ tbk := tb_at 32 (by decide +kernel) rfl
set_option maxRecDepth 20000 in
theorem wN_X2 : Cond.initialized RX2 ∈ tbk := tb_at 33 (by decide +kernel) rfl
set_option maxRecDepth 20000 in
theorem wN_X0 : Cond.initialized RX0 ∈ tbk := tb_at 34 (by decide +kernel) rfl
set_option maxRecDepth 20000 in
theorem wN_X1 : Cond.initialized RX1 ∈ tbk := tb_at 35 (by decide +kernel) rfl
set_option maxRecDepth 20000 in
theorem wN_X3 : Cond.initialized RX3 ∈ tbk := tb_at 36 (by decide +kernel) rfl
set_option maxRecDepth 20000 in
theorem wN_X5 : Cond.initialized RX5 ∈ tbk := tb_at 37 (by decide +kernel) rfl
set_option maxRecDepth 20000 in
theorem wN_X7 : Cond.initialized RX7 ∈ tbk := tb_at 38 (by decide +kernel) rfl
set_option maxRecDepth 20000 in
theorem wN_J9 : Cond.initialized RJ9 ∈ tbk := tb_at 39 (by decide +kernel) rfl
set_option maxRecDepth 20000 in
theorem wL_L_7 : Cond.classLink RL 7 RX6 ∈ tbk := tb_at 40 (by decide +kernel) rfl
set_option maxRecDepth 20000 in
theorem wB_X6 : Cond.instantiable RX6 5 ∈ tbk := tb_at 41 (by decide +kernel) rfl
set_option maxRecDepth 20000 in
theorem wM_L_9 : Cond.methodLink RL 9 yX6_init ∈ tbk := tb_at 42 (by decide +kernel) rfl
set_option maxRecDepth 20000 in
theorem wI_X6_init : Cond.instanceMethod yX6_init ∈ tbk := tb_at 43 (by decide +kernel) rfl
set_option maxRecDepth 20000 in
theorem wC_X6_init : Cond.code yX6_init cX6_init 2 none ∈ tbk := tb_at 44 (by decide +kernel) rfl
set_option maxRecDepth 20000 in
theorem wM_X6_1 : Cond.methodLink RX6 1 objectInit ∈ tbk := tb_at 45 (by decide +kernel) rfl
set_option maxRecDepth 20000 in
theorem wI_obj : Cond.instanceMethod objectInit ∈ tbk := tb_at 46 (by decide +kernel) rfl
set_option maxRecDepth 20000 in
theorem wC_obj : Cond.code objectInit ⟨#[0xb1]⟩ 1 none ∈ tbk := tb_at 47 (by decide +kernel) rfl
set_option maxRecDepth 20000 in
theorem wL_X6_7 : Cond.classLink RX6 7 RX4 ∈ tbk := tb_at 48 (by decide +kernel) rfl
set_option maxRecDepth 20000 in
theorem wB_X4 : Cond.instantiable RX4 12 ∈ tbk := tb_at 49 (by decide +kernel) rfl
set_option maxRecDepth 20000 in
theorem wM_X6_9 : Cond.methodLink RX6 9 yX4_init ∈ tbk := tb_at 50 (by decide +kernel) rfl
set_option maxRecDepth 20000 in
theorem wI_X4_init : Cond.instanceMethod yX4_init ∈ tbk := tb_at 51 (by decide +kernel) rfl
set_option maxRecDepth 20000 in
theorem wC_X4_init : Cond.code yX4_init cX4_init 2 none ∈ tbk := tb_at 52 (by decide +kernel) rfl
set_option maxRecDepth 20000 in
theorem wM_X4_3 : Cond.methodLink RX4 3 objectInit ∈ tbk := tb_at 53 (by decide +kernel) rfl
set_option maxRecDepth 20000 in
theorem wL_X4_9 : Cond.classLink RX4 9 RX2 ∈ tbk := tb_at 54 (by decide +kernel) rfl
set_option maxRecDepth 20000 in
theorem wA_X2 : Cond.arrayOver (.object RX2) ∈ lw_tbl := List.mem_of_getElem? (i := 55) (by decide +kernel)
set_option maxRecDepth 20000 in
theorem wL_X4_17 : Cond.classLink RX4 17 RX0 ∈ tbk := tb_at 56 (by decide +kernel) rfl
set_option maxRecDepth 20000 in
theorem wA_X0 : Cond.arrayOver (.object RX0) ∈ lw_tbl := List.mem_of_getElem? (i := 57) (by decide +kernel)
set_option maxRecDepth 20000 in
theorem wL_X4_23 : Cond.classLink RX4 23 RX1 ∈ tbk := tb_at 58 (by decide +kernel) rfl
set_option maxRecDepth 20000 in
theorem wA_X1 : Cond.arrayOver (.object RX1) ∈ lw_tbl := List.mem_of_getElem? (i := 59) (by decide +kernel)
set_option maxRecDepth 20000 in
theorem wB_X2 : Cond.instantiable RX2 8 ∈ tbk := tb_at 60 (by decide +kernel) rfl
set_option maxRecDepth 20000 in
theorem wM_X4_29 : Cond.methodLinkNest RX4 29 yX2_init "FlowletSwitch" ∈ tbk := tb_at 61 (by decide +kernel) rfl
set_option maxRecDepth 20000 in
theorem wI_X2_init : Cond.instanceMethod yX2_init ∈ tbk := tb_at 62 (by decide +kernel) rfl
set_option maxRecDepth 20000 in
theorem wC_X2_init : Cond.code yX2_init cX2_init 1 none ∈ tbk := tb_at 63 (by decide +kernel) rfl
set_option maxRecDepth 20000 in
theorem wM_X2_3 : Cond.methodLink RX2 3 objectInit ∈ tbk := tb_at 64 (by decide +kernel) rfl
set_option maxRecDepth 20000 in
theorem wF_X2_9 : Cond.fieldLink RX2 9 "FlowletSwitch$Path" "delay" "I" ∈ tbk := tb_at 65 (by decide +kernel) rfl
set_option maxRecDepth 20000 in
theorem wF_X6_62 : Cond.fieldLink RX6 62 "FlowletSwitch$Path" "delay" "I" ∈ tbk := tb_at 66 (by decide +kernel) rfl
set_option maxRecDepth 20000 in
theorem wF_X2_15 : Cond.fieldLink RX2 15 "FlowletSwitch$Path" "rate" "I" ∈ tbk := tb_at 67 (by decide +kernel) rfl
set_option maxRecDepth 20000 in
theorem wF_X6_68 : Cond.fieldLink RX6 68 "FlowletSwitch$Path" "rate" "I" ∈ tbk := tb_at 68 (by decide +kernel) rfl
set_option maxRecDepth 20000 in
theorem wF_X2_18 : Cond.fieldLink RX2 18 "FlowletSwitch$Path" "remoteLevel" "I" ∈ tbk := tb_at 69 (by decide +kernel) rfl
set_option maxRecDepth 20000 in
theorem wF_X6_71 : Cond.fieldLink RX6 71 "FlowletSwitch$Path" "remoteLevel" "I" ∈ tbk := tb_at 70 (by decide +kernel) rfl
set_option maxRecDepth 20000 in
theorem wF_X2_21 : Cond.fieldLink RX2 21 "FlowletSwitch$Path" "register" "I" ∈ tbk := tb_at 71 (by decide +kernel) rfl
set_option maxRecDepth 20000 in
theorem wF_X6_146 : Cond.fieldLink RX6 146 "FlowletSwitch$Path" "register" "I" ∈ tbk := tb_at 72 (by decide +kernel) rfl
set_option maxRecDepth 20000 in
theorem wF_X2_24 : Cond.fieldLink RX2 24 "FlowletSwitch$Path" "busyUntil" "I" ∈ tbk := tb_at 73 (by decide +kernel) rfl
set_option maxRecDepth 20000 in
theorem wF_X2_27 : Cond.fieldLink RX2 27 "FlowletSwitch$Path" "packetCount" "I" ∈ tbk := tb_at 74 (by decide +kernel) rfl
set_option maxRecDepth 20000 in
theorem wF_X6_161 : Cond.fieldLink RX6 161 "FlowletSwitch$Path" "packetCount" "I" ∈ tbk := tb_at 75 (by decide +kernel) rfl
set_option maxRecDepth 20000 in
theorem wF_X2_30 : Cond.fieldLink RX2 30 "FlowletSwitch$Path" "byteCount" "I" ∈ tbk := tb_at 76 (by decide +kernel) rfl
set_option maxRecDepth 20000 in
theorem wF_X4_117 : Cond.fieldLink RX4 117 "FlowletSwitch$Path" "byteCount" "I" ∈ tbk := tb_at 77 (by decide +kernel) rfl
set_option maxRecDepth 20000 in
theorem wF_X6_164 : Cond.fieldLink RX6 164 "FlowletSwitch$Path" "byteCount" "I" ∈ tbk := tb_at 78 (by decide +kernel) rfl
set_option maxRecDepth 20000 in
theorem wF_X2_33 : Cond.fieldLink RX2 33 "FlowletSwitch$Path" "dropCount" "I" ∈ tbk := tb_at 79 (by decide +kernel) rfl
set_option maxRecDepth 20000 in
theorem wF_X4_165 : Cond.fieldLink RX4 165 "FlowletSwitch$Path" "dropCount" "I" ∈ tbk := tb_at 80 (by decide +kernel) rfl
set_option maxRecDepth 20000 in
theorem wF_X6_167 : Cond.fieldLink RX6 167 "FlowletSwitch$Path" "dropCount" "I" ∈ tbk := tb_at 81 (by decide +kernel) rfl
set_option maxRecDepth 20000 in
theorem wB_X0 : Cond.instantiable RX0 4 ∈ tbk := tb_at 99 (by decide +kernel) rfl
set_option maxRecDepth 20000 in
theorem wM_X4_30 : Cond.methodLinkNest RX4 30 yX0_init "FlowletSwitch" ∈ tbk := tb_at 100 (by decide +kernel) rfl
set_option maxRecDepth 20000 in
theorem wI_X0_init : Cond.instanceMethod yX0_init ∈ tbk := tb_at 101 (by decide +kernel) rfl
set_option maxRecDepth 20000 in
theorem wC_X0_init : Cond.code yX0_init cX0_init 1 none ∈ tbk := tb_at 102 (by decide +kernel) rfl
set_option maxRecDepth 20000 in
theorem wM_X0_3 : Cond.methodLink RX0 3 objectInit ∈ tbk := tb_at 103 (by decide +kernel) rfl
set_option maxRecDepth 20000 in
theorem wF_X0_9 : Cond.fieldLink RX0 9 "FlowletSwitch$Entry" "valid" "Z" ∈ tbk := tb_at 104 (by decide +kernel) rfl
set_option maxRecDepth 20000 in
theorem wF_X4_95 : Cond.fieldLink RX4 95 "FlowletSwitch$Entry" "valid" "Z" ∈ tbk := tb_at 105 (by decide +kernel) rfl
set_option maxRecDepth 20000 in
theorem wF_X6_128 : Cond.fieldLink RX6 128 "FlowletSwitch$Entry" "valid" "Z" ∈ tbk := tb_at 106 (by decide +kernel) rfl
set_option maxRecDepth 20000 in
theorem wF_X0_15 : Cond.fieldLink RX0 15 "FlowletSwitch$Entry" "path" "I" ∈ tbk := tb_at 107 (by decide +kernel) rfl
set_option maxRecDepth 20000 in
theorem wF_X6_123 : Cond.fieldLink RX6 123 "FlowletSwitch$Entry" "path" "I" ∈ tbk := tb_at 108 (by decide +kernel) rfl
set_option maxRecDepth 20000 in
theorem wF_X4_133 : Cond.fieldLink RX4 133 "FlowletSwitch$Entry" "path" "I" ∈ tbk := tb_at 109 (by decide +kernel) rfl
set_option maxRecDepth 20000 in
theorem wF_X0_19 : Cond.fieldLink RX0 19 "FlowletSwitch$Entry" "latest" "I" ∈ tbk := tb_at 110 (by decide +kernel) rfl
set_option maxRecDepth 20000 in
theorem wF_X4_99 : Cond.fieldLink RX4 99 "FlowletSwitch$Entry" "latest" "I" ∈ tbk := tb_at 111 (by decide +kernel) rfl
set_option maxRecDepth 20000 in
theorem wF_X6_139 : Cond.fieldLink RX6 139 "FlowletSwitch$Entry" "latest" "I" ∈ tbk := tb_at 112 (by decide +kernel) rfl
set_option maxRecDepth 20000 in
theorem wF_X0_22 : Cond.fieldLink RX0 22 "FlowletSwitch$Entry" "age" "I" ∈ tbk := tb_at 113 (by decide +kernel) rfl
set_option maxRecDepth 20000 in
theorem wF_X6_132 : Cond.fieldLink RX6 132 "FlowletSwitch$Entry" "age" "I" ∈ tbk := tb_at 114 (by decide +kernel) rfl
set_option maxRecDepth 20000 in
theorem wB_X1 : Cond.instantiable RX1 5 ∈ tbk := tb_at 124 (by decide +kernel) rfl
set_option maxRecDepth 20000 in
theorem wM_X4_31 : Cond.methodLinkNest RX4 31 yX1_init "FlowletSwitch" ∈ tbk := tb_at 125 (by decide +kernel) rfl
set_option maxRecDepth 20000 in
theorem wI_X1_init : Cond.instanceMethod yX1_init ∈ tbk := tb_at 126 (by decide +kernel) rfl
set_option maxRecDepth 20000 in
theorem wC_X1_init : Cond.code yX1_init cX1_init 1 none ∈ tbk := tb_at 127 (by decide +kernel) rfl
set_option maxRecDepth 20000 in
theorem wM_X1_3 : Cond.methodLink RX1 3 objectInit ∈ tbk := tb_at 128 (by decide +kernel) rfl
set_option maxRecDepth 20000 in
theorem wF_X1_9 : Cond.fieldLink RX1 9 "FlowletSwitch$Flow" "flowletCount" "I" ∈ tbk := tb_at 129 (by decide +kernel) rfl
set_option maxRecDepth 20000 in
theorem wF_X4_181 : Cond.fieldLink RX4 181 "FlowletSwitch$Flow" "flowletCount" "I" ∈ tbk := tb_at 130 (by decide +kernel) rfl
set_option maxRecDepth 20000 in
theorem wF_X6_184 : Cond.fieldLink RX6 184 "FlowletSwitch$Flow" "flowletCount" "I" ∈ tbk := tb_at 131 (by decide +kernel) rfl
set_option maxRecDepth 20000 in
theorem wF_X1_15 : Cond.fieldLink RX1 15 "FlowletSwitch$Flow" "changeCount" "I" ∈ tbk := tb_at 132 (by decide +kernel) rfl
set_option maxRecDepth 20000 in
theorem wF_X6_189 : Cond.fieldLink RX6 189 "FlowletSwitch$Flow" "changeCount" "I" ∈ tbk := tb_at 133 (by decide +kernel) rfl
set_option maxRecDepth 20000 in
theorem wF_X1_18 : Cond.fieldLink RX1 18 "FlowletSwitch$Flow" "reorderCount" "I" ∈ tbk := tb_at 134 (by decide +kernel) rfl
set_option maxRecDepth 20000 in
theorem wF_X6_192 : Cond.fieldLink RX6 192 "FlowletSwitch$Flow" "reorderCount" "I" ∈ tbk := tb_at 135 (by decide +kernel) rfl
set_option maxRecDepth 20000 in
theorem wF_X1_21 : Cond.fieldLink RX1 21 "FlowletSwitch$Flow" "latestPath" "I" ∈ tbk := tb_at 136 (by decide +kernel) rfl
set_option maxRecDepth 20000 in
theorem wF_X1_24 : Cond.fieldLink RX1 24 "FlowletSwitch$Flow" "latestArrival" "I" ∈ tbk := tb_at 137 (by decide +kernel) rfl
set_option maxRecDepth 20000 in
theorem wF_X6_195 : Cond.fieldLink RX6 195 "FlowletSwitch$Flow" "latestArrival" "I" ∈ tbk := tb_at 138 (by decide +kernel) rfl
set_option maxRecDepth 20000 in
theorem wM_X4_32 : Cond.methodLink RX4 32 yX4_reset ∈ tbk := tb_at 150 (by decide +kernel) rfl
set_option maxRecDepth 20000 in
theorem wI_X4_reset : Cond.instanceMethod yX4_reset ∈ tbk := tb_at 151 (by decide +kernel) rfl
set_option maxRecDepth 20000 in
theorem wS_X4_reset : Cond.selects RX4 yX4_reset yX4_reset ∈ tbk := tb_at 152 (by decide +kernel) rfl
set_option maxRecDepth 20000 in
theorem wC_X4_reset : Cond.code yX4_reset cX4_reset 4 none ∈ tbk := tb_at 153 (by decide +kernel) rfl
set_option maxRecDepth 20000 in
theorem wM_X4_64 : Cond.methodLink RX4 64 yX2_reset ∈ tbk := tb_at 154 (by decide +kernel) rfl
set_option maxRecDepth 20000 in
theorem wI_X2_reset : Cond.instanceMethod yX2_reset ∈ tbk := tb_at 155 (by decide +kernel) rfl
set_option maxRecDepth 20000 in
theorem wS_X2_reset : Cond.selects RX2 yX2_reset yX2_reset ∈ tbk := tb_at 156 (by decide +kernel) rfl
set_option maxRecDepth 20000 in
theorem wC_X2_reset : Cond.code yX2_reset cX2_reset 1 none ∈ tbk := tb_at 157 (by decide +kernel) rfl
set_option maxRecDepth 20000 in
theorem wM_X4_66 : Cond.methodLink RX4 66 yX0_reset ∈ tbk := tb_at 158 (by decide +kernel) rfl
set_option maxRecDepth 20000 in
theorem wI_X0_reset : Cond.instanceMethod yX0_reset ∈ tbk := tb_at 159 (by decide +kernel) rfl
set_option maxRecDepth 20000 in
theorem wS_X0_reset : Cond.selects RX0 yX0_reset yX0_reset ∈ tbk := tb_at 160 (by decide +kernel) rfl
set_option maxRecDepth 20000 in
theorem wC_X0_reset : Cond.code yX0_reset cX0_reset 1 none ∈ tbk := tb_at 161 (by decide +kernel) rfl
set_option maxRecDepth 20000 in
theorem wM_X4_67 : Cond.methodLink RX4 67 yX1_reset ∈ tbk := tb_at 162 (by decide +kernel) rfl
set_option maxRecDepth 20000 in
theorem wI_X1_reset : Cond.instanceMethod yX1_reset ∈ tbk := tb_at 163 (by decide +kernel) rfl
set_option maxRecDepth 20000 in
theorem wS_X1_reset : Cond.selects RX1 yX1_reset yX1_reset ∈ tbk := tb_at 164 (by decide +kernel) rfl
set_option maxRecDepth 20000 in
theorem wC_X1_reset : Cond.code yX1_reset cX1_reset 1 none ∈ tbk := tb_at 165 (by decide +kernel) rfl
set_option maxRecDepth 20000 in
theorem wF_X4_36 : Cond.fieldLink RX4 36 "FlowletSwitch$SwitchState" "pathCount" "I" ∈ tbk := tb_at 166 (by decide +kernel) rfl
set_option maxRecDepth 20000 in
theorem wF_X4_40 : Cond.fieldLink RX4 40 "FlowletSwitch$SwitchState" "entryCount" "I" ∈ tbk := tb_at 167 (by decide +kernel) rfl
set_option maxRecDepth 20000 in
theorem wF_X4_43 : Cond.fieldLink RX4 43 "FlowletSwitch$SwitchState" "time" "I" ∈ tbk := tb_at 168 (by decide +kernel) rfl
set_option maxRecDepth 20000 in
theorem wF_X6_96 : Cond.fieldLink RX6 96 "FlowletSwitch$SwitchState" "time" "I" ∈ tbk := tb_at 169 (by decide +kernel) rfl
set_option maxRecDepth 20000 in
theorem wF_X4_46 : Cond.fieldLink RX4 46 "FlowletSwitch$SwitchState" "mode" "I" ∈ tbk := tb_at 170 (by decide +kernel) rfl
set_option maxRecDepth 20000 in
theorem wF_X6_74 : Cond.fieldLink RX6 74 "FlowletSwitch$SwitchState" "mode" "I" ∈ tbk := tb_at 171 (by decide +kernel) rfl
set_option maxRecDepth 20000 in
theorem wF_X4_49 : Cond.fieldLink RX4 49 "FlowletSwitch$SwitchState" "detection" "I" ∈ tbk := tb_at 172 (by decide +kernel) rfl
set_option maxRecDepth 20000 in
theorem wF_X6_77 : Cond.fieldLink RX6 77 "FlowletSwitch$SwitchState" "detection" "I" ∈ tbk := tb_at 173 (by decide +kernel) rfl
set_option maxRecDepth 20000 in
theorem wF_X4_52 : Cond.fieldLink RX4 52 "FlowletSwitch$SwitchState" "gap" "I" ∈ tbk := tb_at 174 (by decide +kernel) rfl
set_option maxRecDepth 20000 in
theorem wF_X6_80 : Cond.fieldLink RX6 80 "FlowletSwitch$SwitchState" "gap" "I" ∈ tbk := tb_at 175 (by decide +kernel) rfl
set_option maxRecDepth 20000 in
theorem wF_X4_55 : Cond.fieldLink RX4 55 "FlowletSwitch$SwitchState" "shift" "I" ∈ tbk := tb_at 176 (by decide +kernel) rfl
set_option maxRecDepth 20000 in
theorem wF_X6_83 : Cond.fieldLink RX6 83 "FlowletSwitch$SwitchState" "shift" "I" ∈ tbk := tb_at 177 (by decide +kernel) rfl
set_option maxRecDepth 20000 in
theorem wF_X4_58 : Cond.fieldLink RX4 58 "FlowletSwitch$SwitchState" "generator" "I" ∈ tbk := tb_at 178 (by decide +kernel) rfl
set_option maxRecDepth 20000 in
theorem wF_X6_86 : Cond.fieldLink RX6 86 "FlowletSwitch$SwitchState" "generator" "I" ∈ tbk := tb_at 179 (by decide +kernel) rfl
set_option maxRecDepth 20000 in
theorem wF_X4_61 : Cond.fieldLink RX4 61 "FlowletSwitch$SwitchState" "turn" "I" ∈ tbk := tb_at 180 (by decide +kernel) rfl
set_option maxRecDepth 20000 in
theorem wF_X4_11 : Cond.fieldLink RX4 11 "FlowletSwitch$SwitchState" "paths" "[LFlowletSwitch$Path;" ∈ tbk := tb_at 181 (by decide +kernel) rfl
set_option maxRecDepth 20000 in
theorem wF_X6_58 : Cond.fieldLink RX6 58 "FlowletSwitch$SwitchState" "paths" "[LFlowletSwitch$Path;" ∈ tbk := tb_at 182 (by decide +kernel) rfl
set_option maxRecDepth 20000 in
theorem wF_X4_19 : Cond.fieldLink RX4 19 "FlowletSwitch$SwitchState" "entries" "[LFlowletSwitch$Entry;" ∈ tbk := tb_at 183 (by decide +kernel) rfl
set_option maxRecDepth 20000 in
theorem wF_X6_115 : Cond.fieldLink RX6 115 "FlowletSwitch$SwitchState" "entries" "[LFlowletSwitch$Entry;" ∈ tbk := tb_at 184 (by decide +kernel) rfl
set_option maxRecDepth 20000 in
theorem wF_X4_25 : Cond.fieldLink RX4 25 "FlowletSwitch$SwitchState" "flows" "[LFlowletSwitch$Flow;" ∈ tbk := tb_at 185 (by decide +kernel) rfl
set_option maxRecDepth 20000 in
theorem wF_X6_180 : Cond.fieldLink RX6 180 "FlowletSwitch$SwitchState" "flows" "[LFlowletSwitch$Flow;" ∈ tbk := tb_at 186 (by decide +kernel) rfl
set_option maxRecDepth 20000 in
theorem wL_X6_16 : Cond.classLink RX6 16 RX3 ∈ tbk := tb_at 212 (by decide +kernel) rfl
set_option maxRecDepth 20000 in
theorem wB_X3 : Cond.instantiable RX3 3 ∈ tbk := tb_at 213 (by decide +kernel) rfl
set_option maxRecDepth 20000 in
theorem wM_X6_18 : Cond.methodLink RX6 18 yX3_init ∈ tbk := tb_at 214 (by decide +kernel) rfl
set_option maxRecDepth 20000 in
theorem wI_X3_init : Cond.instanceMethod yX3_init ∈ tbk := tb_at 215 (by decide +kernel) rfl
set_option maxRecDepth 20000 in
theorem wC_X3_init : Cond.code yX3_init cX3_init 2 none ∈ tbk := tb_at 216 (by decide +kernel) rfl
set_option maxRecDepth 20000 in
theorem wM_X3_3 : Cond.methodLink RX3 3 objectInit ∈ tbk := tb_at 217 (by decide +kernel) rfl
set_option maxRecDepth 20000 in
theorem wL_X3_9 : Cond.classLink RX3 9 RX4 ∈ tbk := tb_at 218 (by decide +kernel) rfl
set_option maxRecDepth 20000 in
theorem wA_X4 : Cond.arrayOver (.object RX4) ∈ lw_tbl := List.mem_of_getElem? (i := 219) (by decide +kernel)
set_option maxRecDepth 20000 in
theorem wM_X3_17 : Cond.methodLink RX3 17 yX4_init ∈ tbk := tb_at 220 (by decide +kernel) rfl
set_option maxRecDepth 20000 in
theorem wF_X3_11 : Cond.fieldLink RX3 11 "FlowletSwitch$SavedStates" "ring" "[LFlowletSwitch$SwitchState;" ∈ tbk := tb_at 221 (by decide +kernel) rfl
set_option maxRecDepth 20000 in
theorem wF_X3_18 : Cond.fieldLink RX3 18 "FlowletSwitch$SavedStates" "next" "I" ∈ tbk := tb_at 222 (by decide +kernel) rfl
set_option maxRecDepth 20000 in
theorem wF_X3_26 : Cond.fieldLink RX3 26 "FlowletSwitch$SavedStates" "count" "I" ∈ tbk := tb_at 223 (by decide +kernel) rfl
set_option maxRecDepth 20000 in
theorem wF_X6_222 : Cond.fieldLink RX6 222 "FlowletSwitch$SavedStates" "count" "I" ∈ tbk := tb_at 224 (by decide +kernel) rfl
set_option maxRecDepth 20000 in
theorem wL_X6_31 : Cond.classLink RX6 31 RX5 ∈ tbk := tb_at 232 (by decide +kernel) rfl
set_option maxRecDepth 20000 in
theorem wB_X5 : Cond.instantiable RX5 6 ∈ tbk := tb_at 233 (by decide +kernel) rfl
set_option maxRecDepth 20000 in
theorem wM_X6_33 : Cond.methodLinkNest RX6 33 yX5_init "FlowletSwitch" ∈ tbk := tb_at 234 (by decide +kernel) rfl
set_option maxRecDepth 20000 in
theorem wI_X5_init : Cond.instanceMethod yX5_init ∈ tbk := tb_at 235 (by decide +kernel) rfl
set_option maxRecDepth 20000 in
theorem wC_X5_init : Cond.code yX5_init cX5_init 1 none ∈ tbk := tb_at 236 (by decide +kernel) rfl
set_option maxRecDepth 20000 in
theorem wM_X5_3 : Cond.methodLink RX5 3 objectInit ∈ tbk := tb_at 237 (by decide +kernel) rfl
set_option maxRecDepth 20000 in
theorem wF_X5_9 : Cond.fieldLink RX5 9 "FlowletSwitch$Trace" "codes" "[I" ∈ tbk := tb_at 238 (by decide +kernel) rfl
set_option maxRecDepth 20000 in
theorem wF_X5_15 : Cond.fieldLink RX5 15 "FlowletSwitch$Trace" "length" "I" ∈ tbk := tb_at 239 (by decide +kernel) rfl
set_option maxRecDepth 20000 in
theorem wF_X6_204 : Cond.fieldLink RX6 204 "FlowletSwitch$Trace" "length" "I" ∈ tbk := tb_at 240 (by decide +kernel) rfl
set_option maxRecDepth 20000 in
theorem wF_X5_19 : Cond.fieldLink RX5 19 "FlowletSwitch$Trace" "position" "I" ∈ tbk := tb_at 241 (by decide +kernel) rfl
set_option maxRecDepth 20000 in
theorem wF_X5_39 : Cond.fieldLink RX5 39 "FlowletSwitch$Trace" "itemIsPacket" "Z" ∈ tbk := tb_at 242 (by decide +kernel) rfl
set_option maxRecDepth 20000 in
theorem wF_X6_234 : Cond.fieldLink RX6 234 "FlowletSwitch$Trace" "itemIsPacket" "Z" ∈ tbk := tb_at 243 (by decide +kernel) rfl
set_option maxRecDepth 20000 in
theorem wF_X5_47 : Cond.fieldLink RX5 47 "FlowletSwitch$Trace" "itemFlow" "I" ∈ tbk := tb_at 244 (by decide +kernel) rfl
set_option maxRecDepth 20000 in
theorem wF_X6_237 : Cond.fieldLink RX6 237 "FlowletSwitch$Trace" "itemFlow" "I" ∈ tbk := tb_at 245 (by decide +kernel) rfl
set_option maxRecDepth 20000 in
theorem wF_X5_50 : Cond.fieldLink RX5 50 "FlowletSwitch$Trace" "itemAmount" "I" ∈ tbk := tb_at 246 (by decide +kernel) rfl
set_option maxRecDepth 20000 in
theorem wF_X6_240 : Cond.fieldLink RX6 240 "FlowletSwitch$Trace" "itemAmount" "I" ∈ tbk := tb_at 247 (by decide +kernel) rfl
set_option maxRecDepth 20000 in
theorem wA_boolean : Cond.arrayClass .boolean ∈ lw_tbl := List.mem_of_getElem? (i := 261) (by decide +kernel)
set_option maxRecDepth 20000 in
theorem wA_int : Cond.arrayClass .int ∈ lw_tbl := List.mem_of_getElem? (i := 262) (by decide +kernel)
set_option maxRecDepth 20000 in
theorem wF_X6_10 : Cond.fieldLink RX6 10 "FlowletSwitch" "state" "LFlowletSwitch$SwitchState;" ∈ tbk := tb_at 263 (by decide +kernel) rfl
set_option maxRecDepth 20000 in
theorem wF_X6_19 : Cond.fieldLink RX6 19 "FlowletSwitch" "savedStates" "LFlowletSwitch$SavedStates;" ∈ tbk := tb_at 264 (by decide +kernel) rfl
set_option maxRecDepth 20000 in
theorem wF_X6_23 : Cond.fieldLink RX6 23 "FlowletSwitch" "snapshots" "[LFlowletSwitch$SwitchState;" ∈ tbk := tb_at 265 (by decide +kernel) rfl
set_option maxRecDepth 20000 in
theorem wF_X6_27 : Cond.fieldLink RX6 27 "FlowletSwitch" "slotFilled" "[Z" ∈ tbk := tb_at 266 (by decide +kernel) rfl
set_option maxRecDepth 20000 in
theorem wF_X6_34 : Cond.fieldLink RX6 34 "FlowletSwitch" "trace" "LFlowletSwitch$Trace;" ∈ tbk := tb_at 267 (by decide +kernel) rfl
set_option maxRecDepth 20000 in
theorem wM_L_13 : Cond.methodLink RL 13 yX6_configure ∈ tbk := tb_at 279 (by decide +kernel) rfl
set_option maxRecDepth 20000 in
theorem wI_X6_configure : Cond.instanceMethod yX6_configure ∈ tbk := tb_at 280 (by decide +kernel) rfl
set_option maxRecDepth 20000 in
theorem wS_X6_configure : Cond.selects RX6 yX6_configure yX6_configure ∈ tbk := tb_at 281 (by decide +kernel) rfl
set_option maxRecDepth 20000 in
theorem wC_X6_configure : Cond.code yX6_configure cX6_configure 3 (some .int) ∈ tbk := tb_at 282 (by decide +kernel) rfl
set_option maxRecDepth 20000 in
theorem wM_X6_38 : Cond.methodLink RX6 38 yX6_isBetween ∈ tbk := tb_at 283 (by decide +kernel) rfl
set_option maxRecDepth 20000 in
theorem wT_X6_isBetween : Cond.static yX6_isBetween ∈ tbk := tb_at 284 (by decide +kernel) rfl
set_option maxRecDepth 20000 in
theorem wC_X6_isBetween : Cond.code yX6_isBetween cX6_isBetween 3 (some .boolean) ∈ tbk := tb_at 285 (by decide +kernel) rfl
set_option maxRecDepth 20000 in
theorem wM_X6_42 : Cond.methodLink RX6 42 yX3_push ∈ tbk := tb_at 286 (by decide +kernel) rfl
set_option maxRecDepth 20000 in
theorem wI_X3_push : Cond.instanceMethod yX3_push ∈ tbk := tb_at 287 (by decide +kernel) rfl
set_option maxRecDepth 20000 in
theorem wS_X3_push : Cond.selects RX3 yX3_push yX3_push ∈ tbk := tb_at 288 (by decide +kernel) rfl
set_option maxRecDepth 20000 in
theorem wC_X3_push : Cond.code yX3_push cX3_push 2 none ∈ tbk := tb_at 289 (by decide +kernel) rfl
set_option maxRecDepth 20000 in
theorem wM_X3_22 : Cond.methodLink RX3 22 yX4_copyFrom ∈ tbk := tb_at 290 (by decide +kernel) rfl
set_option maxRecDepth 20000 in
theorem wI_X4_copyFrom : Cond.instanceMethod yX4_copyFrom ∈ tbk := tb_at 291 (by decide +kernel) rfl
set_option maxRecDepth 20000 in
theorem wS_X4_copyFrom : Cond.selects RX4 yX4_copyFrom yX4_copyFrom ∈ tbk := tb_at 292 (by decide +kernel) rfl
set_option maxRecDepth 20000 in
theorem wC_X4_copyFrom : Cond.code yX4_copyFrom cX4_copyFrom 3 none ∈ tbk := tb_at 293 (by decide +kernel) rfl
set_option maxRecDepth 20000 in
theorem wM_X4_68 : Cond.methodLink RX4 68 yX2_copyFrom ∈ tbk := tb_at 294 (by decide +kernel) rfl
set_option maxRecDepth 20000 in
theorem wI_X2_copyFrom : Cond.instanceMethod yX2_copyFrom ∈ tbk := tb_at 295 (by decide +kernel) rfl
set_option maxRecDepth 20000 in
theorem wS_X2_copyFrom : Cond.selects RX2 yX2_copyFrom yX2_copyFrom ∈ tbk := tb_at 296 (by decide +kernel) rfl
set_option maxRecDepth 20000 in
theorem wC_X2_copyFrom : Cond.code yX2_copyFrom cX2_copyFrom 2 none ∈ tbk := tb_at 297 (by decide +kernel) rfl
set_option maxRecDepth 20000 in
theorem wM_X4_72 : Cond.methodLink RX4 72 yX0_copyFrom ∈ tbk := tb_at 298 (by decide +kernel) rfl
set_option maxRecDepth 20000 in
theorem wI_X0_copyFrom : Cond.instanceMethod yX0_copyFrom ∈ tbk := tb_at 299 (by decide +kernel) rfl
set_option maxRecDepth 20000 in
theorem wS_X0_copyFrom : Cond.selects RX0 yX0_copyFrom yX0_copyFrom ∈ tbk := tb_at 300 (by decide +kernel) rfl
set_option maxRecDepth 20000 in
theorem wC_X0_copyFrom : Cond.code yX0_copyFrom cX0_copyFrom 2 none ∈ tbk := tb_at 301 (by decide +kernel) rfl
set_option maxRecDepth 20000 in
theorem wM_X4_75 : Cond.methodLink RX4 75 yX1_copyFrom ∈ tbk := tb_at 302 (by decide +kernel) rfl
set_option maxRecDepth 20000 in
theorem wI_X1_copyFrom : Cond.instanceMethod yX1_copyFrom ∈ tbk := tb_at 303 (by decide +kernel) rfl
set_option maxRecDepth 20000 in
theorem wS_X1_copyFrom : Cond.selects RX1 yX1_copyFrom yX1_copyFrom ∈ tbk := tb_at 304 (by decide +kernel) rfl
set_option maxRecDepth 20000 in
theorem wC_X1_copyFrom : Cond.code yX1_copyFrom cX1_copyFrom 2 none ∈ tbk := tb_at 305 (by decide +kernel) rfl
set_option maxRecDepth 20000 in
theorem wM_X3_29 : Cond.methodLink RX3 29 yJ9_min_7cf53 ∈ tbk := tb_at 306 (by decide +kernel) rfl
set_option maxRecDepth 20000 in
theorem wT_J9_min_7cf53 : Cond.static yJ9_min_7cf53 ∈ tbk := tb_at 307 (by decide +kernel) rfl
set_option maxRecDepth 20000 in
theorem wC_J9_min_7cf53 : Cond.code yJ9_min_7cf53 cJ9_min_7cf53 2 (some .int) ∈ tbk := tb_at 308 (by decide +kernel) rfl
set_option maxRecDepth 20000 in
theorem wM_X6_46 : Cond.methodLink RX6 46 yX4_reset ∈ tbk := tb_at 309 (by decide +kernel) rfl
set_option maxRecDepth 20000 in
theorem wM_X6_50 : Cond.methodLink RX6 50 yX4_countFlowsOfEntry ∈ tbk := tb_at 310 (by decide +kernel) rfl
set_option maxRecDepth 20000 in
theorem wI_X4_countFlowsOfEntry : Cond.instanceMethod yX4_countFlowsOfEntry ∈ tbk := tb_at 311 (by decide +kernel) rfl
set_option maxRecDepth 20000 in
theorem wS_X4_countFlowsOfEntry : Cond.selects RX4 yX4_countFlowsOfEntry yX4_countFlowsOfEntry ∈ tbk := tb_at 312 (by decide +kernel) rfl
set_option maxRecDepth 20000 in
theorem wC_X4_countFlowsOfEntry : Cond.code yX4_countFlowsOfEntry cX4_countFlowsOfEntry 4 (some .int) ∈ tbk := tb_at 313 (by decide +kernel) rfl
set_option maxRecDepth 20000 in
theorem wM_X4_91 : Cond.methodLink RX4 91 yX4_entryNumber ∈ tbk := tb_at 314 (by decide +kernel) rfl
set_option maxRecDepth 20000 in
theorem wI_X4_entryNumber : Cond.instanceMethod yX4_entryNumber ∈ tbk := tb_at 315 (by decide +kernel) rfl
set_option maxRecDepth 20000 in
theorem wS_X4_entryNumber : Cond.selects RX4 yX4_entryNumber yX4_entryNumber ∈ tbk := tb_at 316 (by decide +kernel) rfl
set_option maxRecDepth 20000 in
theorem wC_X4_entryNumber : Cond.code yX4_entryNumber cX4_entryNumber 2 (some .int) ∈ tbk := tb_at 317 (by decide +kernel) rfl
set_option maxRecDepth 20000 in
theorem wM_X4_87 : Cond.methodLinkNest RX4 87 yX6_remainder "FlowletSwitch" ∈ tbk := tb_at 318 (by decide +kernel) rfl
set_option maxRecDepth 20000 in
theorem wT_X6_remainder : Cond.static yX6_remainder ∈ tbk := tb_at 319 (by decide +kernel) rfl
set_option maxRecDepth 20000 in
theorem wC_X6_remainder : Cond.code yX6_remainder cX6_remainder 2 (some .int) ∈ tbk := tb_at 320 (by decide +kernel) rfl
set_option maxRecDepth 20000 in
theorem wM_L_18 : Cond.methodLink RL 18 yX6_setDelay ∈ tbk := tb_at 321 (by decide +kernel) rfl
set_option maxRecDepth 20000 in
theorem wI_X6_setDelay : Cond.instanceMethod yX6_setDelay ∈ tbk := tb_at 322 (by decide +kernel) rfl
set_option maxRecDepth 20000 in
theorem wS_X6_setDelay : Cond.selects RX6 yX6_setDelay yX6_setDelay ∈ tbk := tb_at 323 (by decide +kernel) rfl
set_option maxRecDepth 20000 in
theorem wC_X6_setDelay : Cond.code yX6_setDelay cX6_setDelay 4 (some .int) ∈ tbk := tb_at 324 (by decide +kernel) rfl
set_option maxRecDepth 20000 in
theorem wM_X6_54 : Cond.methodLink RX6 54 yX4_hasPath ∈ tbk := tb_at 325 (by decide +kernel) rfl
set_option maxRecDepth 20000 in
theorem wI_X4_hasPath : Cond.instanceMethod yX4_hasPath ∈ tbk := tb_at 326 (by decide +kernel) rfl
set_option maxRecDepth 20000 in
theorem wS_X4_hasPath : Cond.selects RX4 yX4_hasPath yX4_hasPath ∈ tbk := tb_at 327 (by decide +kernel) rfl
set_option maxRecDepth 20000 in
theorem wC_X4_hasPath : Cond.code yX4_hasPath cX4_hasPath 2 (some .boolean) ∈ tbk := tb_at 328 (by decide +kernel) rfl
set_option maxRecDepth 20000 in
theorem wM_X4_78 : Cond.methodLinkNest RX4 78 yX6_isBetween "FlowletSwitch" ∈ tbk := tb_at 329 (by decide +kernel) rfl
set_option maxRecDepth 20000 in
theorem wM_L_22 : Cond.methodLink RL 22 yX6_setRate ∈ tbk := tb_at 330 (by decide +kernel) rfl
set_option maxRecDepth 20000 in
theorem wI_X6_setRate : Cond.instanceMethod yX6_setRate ∈ tbk := tb_at 331 (by decide +kernel) rfl
set_option maxRecDepth 20000 in
theorem wS_X6_setRate : Cond.selects RX6 yX6_setRate yX6_setRate ∈ tbk := tb_at 332 (by decide +kernel) rfl
set_option maxRecDepth 20000 in
theorem wC_X6_setRate : Cond.code yX6_setRate cX6_setRate 4 (some .int) ∈ tbk := tb_at 333 (by decide +kernel) rfl
set_option maxRecDepth 20000 in
theorem wM_L_26 : Cond.methodLink RL 26 yX6_setRemoteLevel ∈ tbk := tb_at 334 (by decide +kernel) rfl
set_option maxRecDepth 20000 in
theorem wI_X6_setRemoteLevel : Cond.instanceMethod yX6_setRemoteLevel ∈ tbk := tb_at 335 (by decide +kernel) rfl
set_option maxRecDepth 20000 in
theorem wS_X6_setRemoteLevel : Cond.selects RX6 yX6_setRemoteLevel yX6_setRemoteLevel ∈ tbk := tb_at 336 (by decide +kernel) rfl
set_option maxRecDepth 20000 in
theorem wC_X6_setRemoteLevel : Cond.code yX6_setRemoteLevel cX6_setRemoteLevel 4 (some .int) ∈ tbk := tb_at 337 (by decide +kernel) rfl
set_option maxRecDepth 20000 in
theorem wM_L_30 : Cond.methodLink RL 30 yX6_setMode ∈ tbk := tb_at 338 (by decide +kernel) rfl
set_option maxRecDepth 20000 in
theorem wI_X6_setMode : Cond.instanceMethod yX6_setMode ∈ tbk := tb_at 339 (by decide +kernel) rfl
set_option maxRecDepth 20000 in
theorem wS_X6_setMode : Cond.selects RX6 yX6_setMode yX6_setMode ∈ tbk := tb_at 340 (by decide +kernel) rfl
set_option maxRecDepth 20000 in
theorem wC_X6_setMode : Cond.code yX6_setMode cX6_setMode 3 (some .int) ∈ tbk := tb_at 341 (by decide +kernel) rfl
set_option maxRecDepth 20000 in
theorem wM_L_35 : Cond.methodLink RL 35 yX6_setDetection ∈ tbk := tb_at 342 (by decide +kernel) rfl
set_option maxRecDepth 20000 in
theorem wI_X6_setDetection : Cond.instanceMethod yX6_setDetection ∈ tbk := tb_at 343 (by decide +kernel) rfl
set_option maxRecDepth 20000 in
theorem wS_X6_setDetection : Cond.selects RX6 yX6_setDetection yX6_setDetection ∈ tbk := tb_at 344 (by decide +kernel) rfl
set_option maxRecDepth 20000 in
theorem wC_X6_setDetection : Cond.code yX6_setDetection cX6_setDetection 3 (some .int) ∈ tbk := tb_at 345 (by decide +kernel) rfl
set_option maxRecDepth 20000 in
theorem wM_L_39 : Cond.methodLink RL 39 yX6_setGap ∈ tbk := tb_at 346 (by decide +kernel) rfl
set_option maxRecDepth 20000 in
theorem wI_X6_setGap : Cond.instanceMethod yX6_setGap ∈ tbk := tb_at 347 (by decide +kernel) rfl
set_option maxRecDepth 20000 in
theorem wS_X6_setGap : Cond.selects RX6 yX6_setGap yX6_setGap ∈ tbk := tb_at 348 (by decide +kernel) rfl
set_option maxRecDepth 20000 in
theorem wC_X6_setGap : Cond.code yX6_setGap cX6_setGap 3 (some .int) ∈ tbk := tb_at 349 (by decide +kernel) rfl
set_option maxRecDepth 20000 in
theorem wM_L_43 : Cond.methodLink RL 43 yX6_setShift ∈ tbk := tb_at 350 (by decide +kernel) rfl
set_option maxRecDepth 20000 in
theorem wI_X6_setShift : Cond.instanceMethod yX6_setShift ∈ tbk := tb_at 351 (by decide +kernel) rfl
set_option maxRecDepth 20000 in
theorem wS_X6_setShift : Cond.selects RX6 yX6_setShift yX6_setShift ∈ tbk := tb_at 352 (by decide +kernel) rfl
set_option maxRecDepth 20000 in
theorem wC_X6_setShift : Cond.code yX6_setShift cX6_setShift 3 (some .int) ∈ tbk := tb_at 353 (by decide +kernel) rfl
set_option maxRecDepth 20000 in
theorem wM_L_47 : Cond.methodLink RL 47 yX6_setGenerator ∈ tbk := tb_at 354 (by decide +kernel) rfl
set_option maxRecDepth 20000 in
theorem wI_X6_setGenerator : Cond.instanceMethod yX6_setGenerator ∈ tbk := tb_at 355 (by decide +kernel) rfl
set_option maxRecDepth 20000 in
theorem wS_X6_setGenerator : Cond.selects RX6 yX6_setGenerator yX6_setGenerator ∈ tbk := tb_at 356 (by decide +kernel) rfl
set_option maxRecDepth 20000 in
theorem wC_X6_setGenerator : Cond.code yX6_setGenerator cX6_setGenerator 3 (some .int) ∈ tbk := tb_at 357 (by decide +kernel) rfl
set_option maxRecDepth 20000 in
theorem wM_L_51 : Cond.methodLink RL 51 yX6_advance ∈ tbk := tb_at 358 (by decide +kernel) rfl
set_option maxRecDepth 20000 in
theorem wI_X6_advance : Cond.instanceMethod yX6_advance ∈ tbk := tb_at 359 (by decide +kernel) rfl
set_option maxRecDepth 20000 in
theorem wS_X6_advance : Cond.selects RX6 yX6_advance yX6_advance ∈ tbk := tb_at 360 (by decide +kernel) rfl
set_option maxRecDepth 20000 in
theorem wC_X6_advance : Cond.code yX6_advance cX6_advance 2 (some .int) ∈ tbk := tb_at 361 (by decide +kernel) rfl
set_option maxRecDepth 20000 in
theorem wM_X6_89 : Cond.methodLink RX6 89 yX4_hasTimeFor ∈ tbk := tb_at 362 (by decide +kernel) rfl
set_option maxRecDepth 20000 in
theorem wI_X4_hasTimeFor : Cond.instanceMethod yX4_hasTimeFor ∈ tbk := tb_at 363 (by decide +kernel) rfl
set_option maxRecDepth 20000 in
theorem wS_X4_hasTimeFor : Cond.selects RX4 yX4_hasTimeFor yX4_hasTimeFor ∈ tbk := tb_at 364 (by decide +kernel) rfl
set_option maxRecDepth 20000 in
theorem wC_X4_hasTimeFor : Cond.code yX4_hasTimeFor cX4_hasTimeFor 2 (some .boolean) ∈ tbk := tb_at 365 (by decide +kernel) rfl
set_option maxRecDepth 20000 in
theorem wK_X4_86 : Cond.constant RX4 86 (1000000) ∈ tbk := tb_at 366 (by decide +kernel) rfl
set_option maxRecDepth 20000 in
theorem wM_X6_92 : Cond.methodLink RX6 92 yX4_letTimePass ∈ tbk := tb_at 367 (by decide +kernel) rfl
set_option maxRecDepth 20000 in
theorem wI_X4_letTimePass : Cond.instanceMethod yX4_letTimePass ∈ tbk := tb_at 368 (by decide +kernel) rfl
set_option maxRecDepth 20000 in
theorem wS_X4_letTimePass : Cond.selects RX4 yX4_letTimePass yX4_letTimePass ∈ tbk := tb_at 369 (by decide +kernel) rfl
set_option maxRecDepth 20000 in
theorem wC_X4_letTimePass : Cond.code yX4_letTimePass cX4_letTimePass 3 none ∈ tbk := tb_at 370 (by decide +kernel) rfl
set_option maxRecDepth 20000 in
theorem wM_X4_120 : Cond.methodLink RX4 120 yX4_decayLoads ∈ tbk := tb_at 371 (by decide +kernel) rfl
set_option maxRecDepth 20000 in
theorem wI_X4_decayLoads : Cond.instanceMethod yX4_decayLoads ∈ tbk := tb_at 372 (by decide +kernel) rfl
set_option maxRecDepth 20000 in
theorem wS_X4_decayLoads : Cond.selects RX4 yX4_decayLoads yX4_decayLoads ∈ tbk := tb_at 373 (by decide +kernel) rfl
set_option maxRecDepth 20000 in
theorem wC_X4_decayLoads : Cond.code yX4_decayLoads cX4_decayLoads 2 none ∈ tbk := tb_at 374 (by decide +kernel) rfl
set_option maxRecDepth 20000 in
theorem wM_X4_126 : Cond.methodLink RX4 126 yX2_decay ∈ tbk := tb_at 375 (by decide +kernel) rfl
set_option maxRecDepth 20000 in
theorem wI_X2_decay : Cond.instanceMethod yX2_decay ∈ tbk := tb_at 376 (by decide +kernel) rfl
set_option maxRecDepth 20000 in
theorem wS_X2_decay : Cond.selects RX2 yX2_decay yX2_decay ∈ tbk := tb_at 377 (by decide +kernel) rfl
set_option maxRecDepth 20000 in
theorem wC_X2_decay : Cond.code yX2_decay cX2_decay 2 none ∈ tbk := tb_at 378 (by decide +kernel) rfl
set_option maxRecDepth 20000 in
theorem wM_X4_123 : Cond.methodLink RX4 123 yX4_ageEntries ∈ tbk := tb_at 379 (by decide +kernel) rfl
set_option maxRecDepth 20000 in
theorem wI_X4_ageEntries : Cond.instanceMethod yX4_ageEntries ∈ tbk := tb_at 380 (by decide +kernel) rfl
set_option maxRecDepth 20000 in
theorem wS_X4_ageEntries : Cond.selects RX4 yX4_ageEntries yX4_ageEntries ∈ tbk := tb_at 381 (by decide +kernel) rfl
set_option maxRecDepth 20000 in
theorem wC_X4_ageEntries : Cond.code yX4_ageEntries cX4_ageEntries 2 none ∈ tbk := tb_at 382 (by decide +kernel) rfl
set_option maxRecDepth 20000 in
theorem wM_X4_130 : Cond.methodLink RX4 130 yX0_growOlder ∈ tbk := tb_at 383 (by decide +kernel) rfl
set_option maxRecDepth 20000 in
theorem wI_X0_growOlder : Cond.instanceMethod yX0_growOlder ∈ tbk := tb_at 384 (by decide +kernel) rfl
set_option maxRecDepth 20000 in
theorem wS_X0_growOlder : Cond.selects RX0 yX0_growOlder yX0_growOlder ∈ tbk := tb_at 385 (by decide +kernel) rfl
set_option maxRecDepth 20000 in
theorem wC_X0_growOlder : Cond.code yX0_growOlder cX0_growOlder 1 none ∈ tbk := tb_at 386 (by decide +kernel) rfl
set_option maxRecDepth 20000 in
theorem wM_L_55 : Cond.methodLink RL 55 yX6_send ∈ tbk := tb_at 387 (by decide +kernel) rfl
set_option maxRecDepth 20000 in
theorem wI_X6_send : Cond.instanceMethod yX6_send ∈ tbk := tb_at 388 (by decide +kernel) rfl
set_option maxRecDepth 20000 in
theorem wS_X6_send : Cond.selects RX6 yX6_send yX6_send ∈ tbk := tb_at 389 (by decide +kernel) rfl
set_option maxRecDepth 20000 in
theorem wC_X6_send : Cond.code yX6_send cX6_send 3 (some .int) ∈ tbk := tb_at 390 (by decide +kernel) rfl
set_option maxRecDepth 20000 in
theorem wM_X6_99 : Cond.methodLink RX6 99 yX6_isFlow ∈ tbk := tb_at 391 (by decide +kernel) rfl
set_option maxRecDepth 20000 in
theorem wT_X6_isFlow : Cond.static yX6_isFlow ∈ tbk := tb_at 392 (by decide +kernel) rfl
set_option maxRecDepth 20000 in
theorem wC_X6_isFlow : Cond.code yX6_isFlow cX6_isFlow 1 (some .boolean) ∈ tbk := tb_at 393 (by decide +kernel) rfl
set_option maxRecDepth 20000 in
theorem wM_X6_102 : Cond.methodLink RX6 102 yX6_isSize ∈ tbk := tb_at 394 (by decide +kernel) rfl
set_option maxRecDepth 20000 in
theorem wT_X6_isSize : Cond.static yX6_isSize ∈ tbk := tb_at 395 (by decide +kernel) rfl
set_option maxRecDepth 20000 in
theorem wC_X6_isSize : Cond.code yX6_isSize cX6_isSize 1 (some .boolean) ∈ tbk := tb_at 396 (by decide +kernel) rfl
set_option maxRecDepth 20000 in
theorem wM_X6_105 : Cond.methodLink RX6 105 yX4_sendPacket ∈ tbk := tb_at 397 (by decide +kernel) rfl
set_option maxRecDepth 20000 in
theorem wI_X4_sendPacket : Cond.instanceMethod yX4_sendPacket ∈ tbk := tb_at 398 (by decide +kernel) rfl
set_option maxRecDepth 20000 in
theorem wS_X4_sendPacket : Cond.selects RX4 yX4_sendPacket yX4_sendPacket ∈ tbk := tb_at 399 (by decide +kernel) rfl
set_option maxRecDepth 20000 in
theorem wC_X4_sendPacket : Cond.code yX4_sendPacket cX4_sendPacket 5 (some .int) ∈ tbk := tb_at 400 (by decide +kernel) rfl
set_option maxRecDepth 20000 in
theorem wM_X4_152 : Cond.methodLink RX4 152 yX4_pathFor ∈ tbk := tb_at 401 (by decide +kernel) rfl
set_option maxRecDepth 20000 in
theorem wI_X4_pathFor : Cond.instanceMethod yX4_pathFor ∈ tbk := tb_at 402 (by decide +kernel) rfl
set_option maxRecDepth 20000 in
theorem wS_X4_pathFor : Cond.selects RX4 yX4_pathFor yX4_pathFor ∈ tbk := tb_at 403 (by decide +kernel) rfl
set_option maxRecDepth 20000 in
theorem wC_X4_pathFor : Cond.code yX4_pathFor cX4_pathFor 3 (some .int) ∈ tbk := tb_at 404 (by decide +kernel) rfl
set_option maxRecDepth 20000 in
theorem wM_X4_102 : Cond.methodLink RX4 102 yX4_isInUse ∈ tbk := tb_at 405 (by decide +kernel) rfl
set_option maxRecDepth 20000 in
theorem wI_X4_isInUse : Cond.instanceMethod yX4_isInUse ∈ tbk := tb_at 406 (by decide +kernel) rfl
set_option maxRecDepth 20000 in
theorem wS_X4_isInUse : Cond.selects RX4 yX4_isInUse yX4_isInUse ∈ tbk := tb_at 407 (by decide +kernel) rfl
set_option maxRecDepth 20000 in
theorem wC_X4_isInUse : Cond.code yX4_isInUse cX4_isInUse 2 (some .boolean) ∈ tbk := tb_at 408 (by decide +kernel) rfl
set_option maxRecDepth 20000 in
theorem wM_X4_136 : Cond.methodLink RX4 136 yX4_leastCongestedPath ∈ tbk := tb_at 409 (by decide +kernel) rfl
set_option maxRecDepth 20000 in
theorem wI_X4_leastCongestedPath : Cond.instanceMethod yX4_leastCongestedPath ∈ tbk := tb_at 410 (by decide +kernel) rfl
set_option maxRecDepth 20000 in
theorem wS_X4_leastCongestedPath : Cond.selects RX4 yX4_leastCongestedPath yX4_leastCongestedPath ∈ tbk := tb_at 411 (by decide +kernel) rfl
set_option maxRecDepth 20000 in
theorem wC_X4_leastCongestedPath : Cond.code yX4_leastCongestedPath cX4_leastCongestedPath 4 (some .int) ∈ tbk := tb_at 412 (by decide +kernel) rfl
set_option maxRecDepth 20000 in
theorem wM_X4_143 : Cond.methodLink RX4 143 yX2_congestion ∈ tbk := tb_at 413 (by decide +kernel) rfl
set_option maxRecDepth 20000 in
theorem wI_X2_congestion : Cond.instanceMethod yX2_congestion ∈ tbk := tb_at 414 (by decide +kernel) rfl
set_option maxRecDepth 20000 in
theorem wS_X2_congestion : Cond.selects RX2 yX2_congestion yX2_congestion ∈ tbk := tb_at 415 (by decide +kernel) rfl
set_option maxRecDepth 20000 in
theorem wC_X2_congestion : Cond.code yX2_congestion cX2_congestion 2 (some .int) ∈ tbk := tb_at 416 (by decide +kernel) rfl
set_option maxRecDepth 20000 in
theorem wM_X2_36 : Cond.methodLink RX2 36 yJ9_min_7cf53 ∈ tbk := tb_at 417 (by decide +kernel) rfl
set_option maxRecDepth 20000 in
theorem wM_X2_42 : Cond.methodLink RX2 42 yJ9_max_7cf53 ∈ tbk := tb_at 418 (by decide +kernel) rfl
set_option maxRecDepth 20000 in
theorem wT_J9_max_7cf53 : Cond.static yJ9_max_7cf53 ∈ tbk := tb_at 419 (by decide +kernel) rfl
set_option maxRecDepth 20000 in
theorem wC_J9_max_7cf53 : Cond.code yJ9_max_7cf53 cJ9_max_7cf53 2 (some .int) ∈ tbk := tb_at 420 (by decide +kernel) rfl
set_option maxRecDepth 20000 in
theorem wM_X4_82 : Cond.methodLink RX4 82 yX4_hasPath ∈ tbk := tb_at 421 (by decide +kernel) rfl
set_option maxRecDepth 20000 in
theorem wM_X4_139 : Cond.methodLink RX4 139 yX4_randomPath ∈ tbk := tb_at 422 (by decide +kernel) rfl
set_option maxRecDepth 20000 in
theorem wI_X4_randomPath : Cond.instanceMethod yX4_randomPath ∈ tbk := tb_at 423 (by decide +kernel) rfl
set_option maxRecDepth 20000 in
theorem wS_X4_randomPath : Cond.selects RX4 yX4_randomPath yX4_randomPath ∈ tbk := tb_at 424 (by decide +kernel) rfl
set_option maxRecDepth 20000 in
theorem wC_X4_randomPath : Cond.code yX4_randomPath cX4_randomPath 1 (some .int) ∈ tbk := tb_at 425 (by decide +kernel) rfl
set_option maxRecDepth 20000 in
theorem wM_X4_146 : Cond.methodLink RX4 146 yX4_nextGenerator ∈ tbk := tb_at 426 (by decide +kernel) rfl
set_option maxRecDepth 20000 in
theorem wI_X4_nextGenerator : Cond.instanceMethod yX4_nextGenerator ∈ tbk := tb_at 427 (by decide +kernel) rfl
set_option maxRecDepth 20000 in
theorem wS_X4_nextGenerator : Cond.selects RX4 yX4_nextGenerator yX4_nextGenerator ∈ tbk := tb_at 428 (by decide +kernel) rfl
set_option maxRecDepth 20000 in
theorem wC_X4_nextGenerator : Cond.code yX4_nextGenerator cX4_nextGenerator 1 (some .int) ∈ tbk := tb_at 429 (by decide +kernel) rfl
set_option maxRecDepth 20000 in
theorem wK_X4_150 : Cond.constant RX4 150 (1103515245) ∈ tbk := tb_at 430 (by decide +kernel) rfl
set_option maxRecDepth 20000 in
theorem wK_X4_151 : Cond.constant RX4 151 (2147483647) ∈ tbk := tb_at 431 (by decide +kernel) rfl
set_option maxRecDepth 20000 in
theorem wK_X4_149 : Cond.constant RX4 149 (65536) ∈ tbk := tb_at 432 (by decide +kernel) rfl
set_option maxRecDepth 20000 in
theorem wM_X4_155 : Cond.methodLink RX4 155 yX4_noteChoice ∈ tbk := tb_at 433 (by decide +kernel) rfl
set_option maxRecDepth 20000 in
theorem wI_X4_noteChoice : Cond.instanceMethod yX4_noteChoice ∈ tbk := tb_at 434 (by decide +kernel) rfl
set_option maxRecDepth 20000 in
theorem wS_X4_noteChoice : Cond.selects RX4 yX4_noteChoice yX4_noteChoice ∈ tbk := tb_at 435 (by decide +kernel) rfl
set_option maxRecDepth 20000 in
theorem wC_X4_noteChoice : Cond.code yX4_noteChoice cX4_noteChoice 3 none ∈ tbk := tb_at 436 (by decide +kernel) rfl
set_option maxRecDepth 20000 in
theorem wM_X4_174 : Cond.methodLink RX4 174 yX4_usesTable ∈ tbk := tb_at 437 (by decide +kernel) rfl
set_option maxRecDepth 20000 in
theorem wI_X4_usesTable : Cond.instanceMethod yX4_usesTable ∈ tbk := tb_at 438 (by decide +kernel) rfl
set_option maxRecDepth 20000 in
theorem wS_X4_usesTable : Cond.selects RX4 yX4_usesTable yX4_usesTable ∈ tbk := tb_at 439 (by decide +kernel) rfl
set_option maxRecDepth 20000 in
theorem wC_X4_usesTable : Cond.code yX4_usesTable cX4_usesTable 1 (some .boolean) ∈ tbk := tb_at 440 (by decide +kernel) rfl
set_option maxRecDepth 20000 in
theorem wM_X4_178 : Cond.methodLink RX4 178 yX4_noteInTable ∈ tbk := tb_at 441 (by decide +kernel) rfl
set_option maxRecDepth 20000 in
theorem wI_X4_noteInTable : Cond.instanceMethod yX4_noteInTable ∈ tbk := tb_at 442 (by decide +kernel) rfl
set_option maxRecDepth 20000 in
theorem wS_X4_noteInTable : Cond.selects RX4 yX4_noteInTable yX4_noteInTable ∈ tbk := tb_at 443 (by decide +kernel) rfl
set_option maxRecDepth 20000 in
theorem wC_X4_noteInTable : Cond.code yX4_noteInTable cX4_noteInTable 4 none ∈ tbk := tb_at 444 (by decide +kernel) rfl
set_option maxRecDepth 20000 in
theorem wM_X4_184 : Cond.methodLink RX4 184 yX0_take ∈ tbk := tb_at 445 (by decide +kernel) rfl
set_option maxRecDepth 20000 in
theorem wI_X0_take : Cond.instanceMethod yX0_take ∈ tbk := tb_at 446 (by decide +kernel) rfl
set_option maxRecDepth 20000 in
theorem wS_X0_take : Cond.selects RX0 yX0_take yX0_take ∈ tbk := tb_at 447 (by decide +kernel) rfl
set_option maxRecDepth 20000 in
theorem wC_X0_take : Cond.code yX0_take cX0_take 3 none ∈ tbk := tb_at 448 (by decide +kernel) rfl
set_option maxRecDepth 20000 in
theorem wM_X4_158 : Cond.methodLink RX4 158 yX4_pathAt ∈ tbk := tb_at 449 (by decide +kernel) rfl
set_option maxRecDepth 20000 in
theorem wI_X4_pathAt : Cond.instanceMethod yX4_pathAt ∈ tbk := tb_at 450 (by decide +kernel) rfl
set_option maxRecDepth 20000 in
theorem wS_X4_pathAt : Cond.selects RX4 yX4_pathAt yX4_pathAt ∈ tbk := tb_at 451 (by decide +kernel) rfl
set_option maxRecDepth 20000 in
theorem wC_X4_pathAt : Cond.code yX4_pathAt cX4_pathAt 2 (some (.object RX2)) ∈ tbk := tb_at 452 (by decide +kernel) rfl
set_option maxRecDepth 20000 in
theorem wM_X4_162 : Cond.methodLink RX4 162 yX2_dropsAt ∈ tbk := tb_at 453 (by decide +kernel) rfl
set_option maxRecDepth 20000 in
theorem wI_X2_dropsAt : Cond.instanceMethod yX2_dropsAt ∈ tbk := tb_at 454 (by decide +kernel) rfl
set_option maxRecDepth 20000 in
theorem wS_X2_dropsAt : Cond.selects RX2 yX2_dropsAt yX2_dropsAt ∈ tbk := tb_at 455 (by decide +kernel) rfl
set_option maxRecDepth 20000 in
theorem wC_X2_dropsAt : Cond.code yX2_dropsAt cX2_dropsAt 2 (some .boolean) ∈ tbk := tb_at 456 (by decide +kernel) rfl
set_option maxRecDepth 20000 in
theorem wM_X2_45 : Cond.methodLink RX2 45 yX2_waitAt ∈ tbk := tb_at 457 (by decide +kernel) rfl
set_option maxRecDepth 20000 in
theorem wI_X2_waitAt : Cond.instanceMethod yX2_waitAt ∈ tbk := tb_at 458 (by decide +kernel) rfl
set_option maxRecDepth 20000 in
theorem wS_X2_waitAt : Cond.selects RX2 yX2_waitAt yX2_waitAt ∈ tbk := tb_at 459 (by decide +kernel) rfl
set_option maxRecDepth 20000 in
theorem wC_X2_waitAt : Cond.code yX2_waitAt cX2_waitAt 2 (some .int) ∈ tbk := tb_at 460 (by decide +kernel) rfl
set_option maxRecDepth 20000 in
theorem wM_X4_106 : Cond.methodLink RX4 106 yX2_ticksToArrive ∈ tbk := tb_at 461 (by decide +kernel) rfl
set_option maxRecDepth 20000 in
theorem wI_X2_ticksToArrive : Cond.instanceMethod yX2_ticksToArrive ∈ tbk := tb_at 462 (by decide +kernel) rfl
set_option maxRecDepth 20000 in
theorem wS_X2_ticksToArrive : Cond.selects RX2 yX2_ticksToArrive yX2_ticksToArrive ∈ tbk := tb_at 463 (by decide +kernel) rfl
set_option maxRecDepth 20000 in
theorem wC_X2_ticksToArrive : Cond.code yX2_ticksToArrive cX2_ticksToArrive 3 (some .int) ∈ tbk := tb_at 464 (by decide +kernel) rfl
set_option maxRecDepth 20000 in
theorem wM_X2_49 : Cond.methodLink RX2 49 yX2_ticksToTransmit ∈ tbk := tb_at 465 (by decide +kernel) rfl
set_option maxRecDepth 20000 in
theorem wI_X2_ticksToTransmit : Cond.instanceMethod yX2_ticksToTransmit ∈ tbk := tb_at 466 (by decide +kernel) rfl
set_option maxRecDepth 20000 in
theorem wS_X2_ticksToTransmit : Cond.selects RX2 yX2_ticksToTransmit yX2_ticksToTransmit ∈ tbk := tb_at 467 (by decide +kernel) rfl
set_option maxRecDepth 20000 in
theorem wC_X2_ticksToTransmit : Cond.code yX2_ticksToTransmit cX2_ticksToTransmit 2 (some .int) ∈ tbk := tb_at 468 (by decide +kernel) rfl
set_option maxRecDepth 20000 in
theorem wM_X4_168 : Cond.methodLink RX4 168 yX1_deliver ∈ tbk := tb_at 469 (by decide +kernel) rfl
set_option maxRecDepth 20000 in
theorem wI_X1_deliver : Cond.instanceMethod yX1_deliver ∈ tbk := tb_at 470 (by decide +kernel) rfl
set_option maxRecDepth 20000 in
theorem wS_X1_deliver : Cond.selects RX1 yX1_deliver yX1_deliver ∈ tbk := tb_at 471 (by decide +kernel) rfl
set_option maxRecDepth 20000 in
theorem wC_X1_deliver : Cond.code yX1_deliver cX1_deliver 3 none ∈ tbk := tb_at 472 (by decide +kernel) rfl
set_option maxRecDepth 20000 in
theorem wM_X1_27 : Cond.methodLink RX1 27 yX1_isOvertakenBy ∈ tbk := tb_at 473 (by decide +kernel) rfl
set_option maxRecDepth 20000 in
theorem wI_X1_isOvertakenBy : Cond.instanceMethod yX1_isOvertakenBy ∈ tbk := tb_at 474 (by decide +kernel) rfl
set_option maxRecDepth 20000 in
theorem wS_X1_isOvertakenBy : Cond.selects RX1 yX1_isOvertakenBy yX1_isOvertakenBy ∈ tbk := tb_at 475 (by decide +kernel) rfl
set_option maxRecDepth 20000 in
theorem wC_X1_isOvertakenBy : Cond.code yX1_isOvertakenBy cX1_isOvertakenBy 2 (some .boolean) ∈ tbk := tb_at 476 (by decide +kernel) rfl
set_option maxRecDepth 20000 in
theorem wM_X1_31 : Cond.methodLink RX1 31 yJ9_max_7cf53 ∈ tbk := tb_at 477 (by decide +kernel) rfl
set_option maxRecDepth 20000 in
theorem wM_X4_171 : Cond.methodLink RX4 171 yX2_transmit ∈ tbk := tb_at 478 (by decide +kernel) rfl
set_option maxRecDepth 20000 in
theorem wI_X2_transmit : Cond.instanceMethod yX2_transmit ∈ tbk := tb_at 479 (by decide +kernel) rfl
set_option maxRecDepth 20000 in
theorem wS_X2_transmit : Cond.selects RX2 yX2_transmit yX2_transmit ∈ tbk := tb_at 480 (by decide +kernel) rfl
set_option maxRecDepth 20000 in
theorem wC_X2_transmit : Cond.code yX2_transmit cX2_transmit 3 none ∈ tbk := tb_at 481 (by decide +kernel) rfl
set_option maxRecDepth 20000 in
theorem wM_L_59 : Cond.methodLink RL 59 yX6_now ∈ tbk := tb_at 482 (by decide +kernel) rfl
set_option maxRecDepth 20000 in
theorem wI_X6_now : Cond.instanceMethod yX6_now ∈ tbk := tb_at 483 (by decide +kernel) rfl
set_option maxRecDepth 20000 in
theorem wS_X6_now : Cond.selects RX6 yX6_now yX6_now ∈ tbk := tb_at 484 (by decide +kernel) rfl
set_option maxRecDepth 20000 in
theorem wC_X6_now : Cond.code yX6_now cX6_now 1 (some .int) ∈ tbk := tb_at 485 (by decide +kernel) rfl
set_option maxRecDepth 20000 in
theorem wM_L_64 : Cond.methodLink RL 64 yX6_entryOf ∈ tbk := tb_at 486 (by decide +kernel) rfl
set_option maxRecDepth 20000 in
theorem wI_X6_entryOf : Cond.instanceMethod yX6_entryOf ∈ tbk := tb_at 487 (by decide +kernel) rfl
set_option maxRecDepth 20000 in
theorem wS_X6_entryOf : Cond.selects RX6 yX6_entryOf yX6_entryOf ∈ tbk := tb_at 488 (by decide +kernel) rfl
set_option maxRecDepth 20000 in
theorem wC_X6_entryOf : Cond.code yX6_entryOf cX6_entryOf 2 (some .int) ∈ tbk := tb_at 489 (by decide +kernel) rfl
set_option maxRecDepth 20000 in
theorem wM_X6_109 : Cond.methodLink RX6 109 yX4_entryNumber ∈ tbk := tb_at 490 (by decide +kernel) rfl
set_option maxRecDepth 20000 in
theorem wM_L_68 : Cond.methodLink RL 68 yX6_isActive ∈ tbk := tb_at 491 (by decide +kernel) rfl
set_option maxRecDepth 20000 in
theorem wI_X6_isActive : Cond.instanceMethod yX6_isActive ∈ tbk := tb_at 492 (by decide +kernel) rfl
set_option maxRecDepth 20000 in
theorem wS_X6_isActive : Cond.selects RX6 yX6_isActive yX6_isActive ∈ tbk := tb_at 493 (by decide +kernel) rfl
set_option maxRecDepth 20000 in
theorem wC_X6_isActive : Cond.code yX6_isActive cX6_isActive 2 (some .int) ∈ tbk := tb_at 494 (by decide +kernel) rfl
set_option maxRecDepth 20000 in
theorem wM_X6_112 : Cond.methodLink RX6 112 yX4_hasEntry ∈ tbk := tb_at 495 (by decide +kernel) rfl
set_option maxRecDepth 20000 in
theorem wI_X4_hasEntry : Cond.instanceMethod yX4_hasEntry ∈ tbk := tb_at 496 (by decide +kernel) rfl
set_option maxRecDepth 20000 in
theorem wS_X4_hasEntry : Cond.selects RX4 yX4_hasEntry yX4_hasEntry ∈ tbk := tb_at 497 (by decide +kernel) rfl
set_option maxRecDepth 20000 in
theorem wC_X4_hasEntry : Cond.code yX4_hasEntry cX4_hasEntry 2 (some .boolean) ∈ tbk := tb_at 498 (by decide +kernel) rfl
set_option maxRecDepth 20000 in
theorem wM_X6_119 : Cond.methodLink RX6 119 yX4_isInUse ∈ tbk := tb_at 499 (by decide +kernel) rfl
set_option maxRecDepth 20000 in
theorem wM_L_72 : Cond.methodLink RL 72 yX6_entryPath ∈ tbk := tb_at 500 (by decide +kernel) rfl
set_option maxRecDepth 20000 in
theorem wI_X6_entryPath : Cond.instanceMethod yX6_entryPath ∈ tbk := tb_at 501 (by decide +kernel) rfl
set_option maxRecDepth 20000 in
theorem wS_X6_entryPath : Cond.selects RX6 yX6_entryPath yX6_entryPath ∈ tbk := tb_at 502 (by decide +kernel) rfl
set_option maxRecDepth 20000 in
theorem wC_X6_entryPath : Cond.code yX6_entryPath cX6_entryPath 2 (some .int) ∈ tbk := tb_at 503 (by decide +kernel) rfl
set_option maxRecDepth 20000 in
theorem wM_L_76 : Cond.methodLink RL 76 yX6_ageBit ∈ tbk := tb_at 504 (by decide +kernel) rfl
set_option maxRecDepth 20000 in
theorem wI_X6_ageBit : Cond.instanceMethod yX6_ageBit ∈ tbk := tb_at 505 (by decide +kernel) rfl
set_option maxRecDepth 20000 in
theorem wS_X6_ageBit : Cond.selects RX6 yX6_ageBit yX6_ageBit ∈ tbk := tb_at 506 (by decide +kernel) rfl
set_option maxRecDepth 20000 in
theorem wC_X6_ageBit : Cond.code yX6_ageBit cX6_ageBit 2 (some .int) ∈ tbk := tb_at 507 (by decide +kernel) rfl
set_option maxRecDepth 20000 in
theorem wM_L_80 : Cond.methodLink RL 80 yX6_idleTime ∈ tbk := tb_at 508 (by decide +kernel) rfl
set_option maxRecDepth 20000 in
theorem wI_X6_idleTime : Cond.instanceMethod yX6_idleTime ∈ tbk := tb_at 509 (by decide +kernel) rfl
set_option maxRecDepth 20000 in
theorem wS_X6_idleTime : Cond.selects RX6 yX6_idleTime yX6_idleTime ∈ tbk := tb_at 510 (by decide +kernel) rfl
set_option maxRecDepth 20000 in
theorem wC_X6_idleTime : Cond.code yX6_idleTime cX6_idleTime 2 (some .int) ∈ tbk := tb_at 511 (by decide +kernel) rfl
set_option maxRecDepth 20000 in
theorem wM_X6_135 : Cond.methodLink RX6 135 yX0_isUnused ∈ tbk := tb_at 512 (by decide +kernel) rfl
set_option maxRecDepth 20000 in
theorem wI_X0_isUnused : Cond.instanceMethod yX0_isUnused ∈ tbk := tb_at 513 (by decide +kernel) rfl
set_option maxRecDepth 20000 in
theorem wS_X0_isUnused : Cond.selects RX0 yX0_isUnused yX0_isUnused ∈ tbk := tb_at 514 (by decide +kernel) rfl
set_option maxRecDepth 20000 in
theorem wC_X0_isUnused : Cond.code yX0_isUnused cX0_isUnused 1 (some .boolean) ∈ tbk := tb_at 515 (by decide +kernel) rfl
set_option maxRecDepth 20000 in
theorem wM_L_84 : Cond.methodLink RL 84 yX6_activeEntries ∈ tbk := tb_at 516 (by decide +kernel) rfl
set_option maxRecDepth 20000 in
theorem wI_X6_activeEntries : Cond.instanceMethod yX6_activeEntries ∈ tbk := tb_at 517 (by decide +kernel) rfl
set_option maxRecDepth 20000 in
theorem wS_X6_activeEntries : Cond.selects RX6 yX6_activeEntries yX6_activeEntries ∈ tbk := tb_at 518 (by decide +kernel) rfl
set_option maxRecDepth 20000 in
theorem wC_X6_activeEntries : Cond.code yX6_activeEntries cX6_activeEntries 1 (some .int) ∈ tbk := tb_at 519 (by decide +kernel) rfl
set_option maxRecDepth 20000 in
theorem wM_X6_142 : Cond.methodLink RX6 142 yX4_countEntriesInUse ∈ tbk := tb_at 520 (by decide +kernel) rfl
set_option maxRecDepth 20000 in
theorem wI_X4_countEntriesInUse : Cond.instanceMethod yX4_countEntriesInUse ∈ tbk := tb_at 521 (by decide +kernel) rfl
set_option maxRecDepth 20000 in
theorem wS_X4_countEntriesInUse : Cond.selects RX4 yX4_countEntriesInUse yX4_countEntriesInUse ∈ tbk := tb_at 522 (by decide +kernel) rfl
set_option maxRecDepth 20000 in
theorem wC_X4_countEntriesInUse : Cond.code yX4_countEntriesInUse cX4_countEntriesInUse 3 (some .int) ∈ tbk := tb_at 523 (by decide +kernel) rfl
set_option maxRecDepth 20000 in
theorem wM_L_88 : Cond.methodLink RL 88 yX6_load ∈ tbk := tb_at 524 (by decide +kernel) rfl
set_option maxRecDepth 20000 in
theorem wI_X6_load : Cond.instanceMethod yX6_load ∈ tbk := tb_at 525 (by decide +kernel) rfl
set_option maxRecDepth 20000 in
theorem wS_X6_load : Cond.selects RX6 yX6_load yX6_load ∈ tbk := tb_at 526 (by decide +kernel) rfl
set_option maxRecDepth 20000 in
theorem wC_X6_load : Cond.code yX6_load cX6_load 2 (some .int) ∈ tbk := tb_at 527 (by decide +kernel) rfl
set_option maxRecDepth 20000 in
theorem wM_L_92 : Cond.methodLink RL 92 yX6_metric ∈ tbk := tb_at 528 (by decide +kernel) rfl
set_option maxRecDepth 20000 in
theorem wI_X6_metric : Cond.instanceMethod yX6_metric ∈ tbk := tb_at 529 (by decide +kernel) rfl
set_option maxRecDepth 20000 in
theorem wS_X6_metric : Cond.selects RX6 yX6_metric yX6_metric ∈ tbk := tb_at 530 (by decide +kernel) rfl
set_option maxRecDepth 20000 in
theorem wC_X6_metric : Cond.code yX6_metric cX6_metric 2 (some .int) ∈ tbk := tb_at 531 (by decide +kernel) rfl
set_option maxRecDepth 20000 in
theorem wM_X6_149 : Cond.methodLink RX6 149 yX2_congestion ∈ tbk := tb_at 532 (by decide +kernel) rfl
set_option maxRecDepth 20000 in
theorem wM_L_96 : Cond.methodLink RL 96 yX6_busyTime ∈ tbk := tb_at 533 (by decide +kernel) rfl
set_option maxRecDepth 20000 in
theorem wI_X6_busyTime : Cond.instanceMethod yX6_busyTime ∈ tbk := tb_at 534 (by decide +kernel) rfl
set_option maxRecDepth 20000 in
theorem wS_X6_busyTime : Cond.selects RX6 yX6_busyTime yX6_busyTime ∈ tbk := tb_at 535 (by decide +kernel) rfl
set_option maxRecDepth 20000 in
theorem wC_X6_busyTime : Cond.code yX6_busyTime cX6_busyTime 2 (some .int) ∈ tbk := tb_at 536 (by decide +kernel) rfl
set_option maxRecDepth 20000 in
theorem wM_X6_152 : Cond.methodLink RX6 152 yX2_waitAt ∈ tbk := tb_at 537 (by decide +kernel) rfl
set_option maxRecDepth 20000 in
theorem wM_L_100 : Cond.methodLink RL 100 yX6_latency ∈ tbk := tb_at 538 (by decide +kernel) rfl
set_option maxRecDepth 20000 in
theorem wI_X6_latency : Cond.instanceMethod yX6_latency ∈ tbk := tb_at 539 (by decide +kernel) rfl
set_option maxRecDepth 20000 in
theorem wS_X6_latency : Cond.selects RX6 yX6_latency yX6_latency ∈ tbk := tb_at 540 (by decide +kernel) rfl
set_option maxRecDepth 20000 in
theorem wC_X6_latency : Cond.code yX6_latency cX6_latency 3 (some .int) ∈ tbk := tb_at 541 (by decide +kernel) rfl
set_option maxRecDepth 20000 in
theorem wM_X6_155 : Cond.methodLink RX6 155 yX2_ticksToArrive ∈ tbk := tb_at 542 (by decide +kernel) rfl
set_option maxRecDepth 20000 in
theorem wM_L_104 : Cond.methodLink RL 104 yX6_safeGap ∈ tbk := tb_at 543 (by decide +kernel) rfl
set_option maxRecDepth 20000 in
theorem wI_X6_safeGap : Cond.instanceMethod yX6_safeGap ∈ tbk := tb_at 544 (by decide +kernel) rfl
set_option maxRecDepth 20000 in
theorem wS_X6_safeGap : Cond.selects RX6 yX6_safeGap yX6_safeGap ∈ tbk := tb_at 545 (by decide +kernel) rfl
set_option maxRecDepth 20000 in
theorem wC_X6_safeGap : Cond.code yX6_safeGap cX6_safeGap 2 (some .int) ∈ tbk := tb_at 546 (by decide +kernel) rfl
set_option maxRecDepth 20000 in
theorem wM_X6_158 : Cond.methodLink RX6 158 yX4_spreadOfLatencies ∈ tbk := tb_at 547 (by decide +kernel) rfl
set_option maxRecDepth 20000 in
theorem wI_X4_spreadOfLatencies : Cond.instanceMethod yX4_spreadOfLatencies ∈ tbk := tb_at 548 (by decide +kernel) rfl
set_option maxRecDepth 20000 in
theorem wS_X4_spreadOfLatencies : Cond.selects RX4 yX4_spreadOfLatencies yX4_spreadOfLatencies ∈ tbk := tb_at 549 (by decide +kernel) rfl
set_option maxRecDepth 20000 in
theorem wC_X4_spreadOfLatencies : Cond.code yX4_spreadOfLatencies cX4_spreadOfLatencies 6 (some .int) ∈ tbk := tb_at 550 (by decide +kernel) rfl
set_option maxRecDepth 20000 in
theorem wM_X4_109 : Cond.methodLink RX4 109 yJ9_min_7cf53 ∈ tbk := tb_at 551 (by decide +kernel) rfl
set_option maxRecDepth 20000 in
theorem wM_X4_114 : Cond.methodLink RX4 114 yJ9_max_7cf53 ∈ tbk := tb_at 552 (by decide +kernel) rfl
set_option maxRecDepth 20000 in
theorem wM_L_108 : Cond.methodLink RL 108 yX6_packets ∈ tbk := tb_at 553 (by decide +kernel) rfl
set_option maxRecDepth 20000 in
theorem wI_X6_packets : Cond.instanceMethod yX6_packets ∈ tbk := tb_at 554 (by decide +kernel) rfl
set_option maxRecDepth 20000 in
theorem wS_X6_packets : Cond.selects RX6 yX6_packets yX6_packets ∈ tbk := tb_at 555 (by decide +kernel) rfl
set_option maxRecDepth 20000 in
theorem wC_X6_packets : Cond.code yX6_packets cX6_packets 2 (some .int) ∈ tbk := tb_at 556 (by decide +kernel) rfl
set_option maxRecDepth 20000 in
theorem wM_L_112 : Cond.methodLink RL 112 yX6_bytes ∈ tbk := tb_at 557 (by decide +kernel) rfl
set_option maxRecDepth 20000 in
theorem wI_X6_bytes : Cond.instanceMethod yX6_bytes ∈ tbk := tb_at 558 (by decide +kernel) rfl
set_option maxRecDepth 20000 in
theorem wS_X6_bytes : Cond.selects RX6 yX6_bytes yX6_bytes ∈ tbk := tb_at 559 (by decide +kernel) rfl
set_option maxRecDepth 20000 in
theorem wC_X6_bytes : Cond.code yX6_bytes cX6_bytes 2 (some .int) ∈ tbk := tb_at 560 (by decide +kernel) rfl
set_option maxRecDepth 20000 in
theorem wM_L_116 : Cond.methodLink RL 116 yX6_drops ∈ tbk := tb_at 561 (by decide +kernel) rfl
set_option maxRecDepth 20000 in
theorem wI_X6_drops : Cond.instanceMethod yX6_drops ∈ tbk := tb_at 562 (by decide +kernel) rfl
set_option maxRecDepth 20000 in
theorem wS_X6_drops : Cond.selects RX6 yX6_drops yX6_drops ∈ tbk := tb_at 563 (by decide +kernel) rfl
set_option maxRecDepth 20000 in
theorem wC_X6_drops : Cond.code yX6_drops cX6_drops 2 (some .int) ∈ tbk := tb_at 564 (by decide +kernel) rfl
set_option maxRecDepth 20000 in
theorem wM_L_120 : Cond.methodLink RL 120 yX6_imbalance ∈ tbk := tb_at 565 (by decide +kernel) rfl
set_option maxRecDepth 20000 in
theorem wI_X6_imbalance : Cond.instanceMethod yX6_imbalance ∈ tbk := tb_at 566 (by decide +kernel) rfl
set_option maxRecDepth 20000 in
theorem wS_X6_imbalance : Cond.selects RX6 yX6_imbalance yX6_imbalance ∈ tbk := tb_at 567 (by decide +kernel) rfl
set_option maxRecDepth 20000 in
theorem wC_X6_imbalance : Cond.code yX6_imbalance cX6_imbalance 1 (some .int) ∈ tbk := tb_at 568 (by decide +kernel) rfl
set_option maxRecDepth 20000 in
theorem wM_X6_170 : Cond.methodLink RX6 170 yX4_spreadOfBytes ∈ tbk := tb_at 569 (by decide +kernel) rfl
set_option maxRecDepth 20000 in
theorem wI_X4_spreadOfBytes : Cond.instanceMethod yX4_spreadOfBytes ∈ tbk := tb_at 570 (by decide +kernel) rfl
set_option maxRecDepth 20000 in
theorem wS_X4_spreadOfBytes : Cond.selects RX4 yX4_spreadOfBytes yX4_spreadOfBytes ∈ tbk := tb_at 571 (by decide +kernel) rfl
set_option maxRecDepth 20000 in
theorem wC_X4_spreadOfBytes : Cond.code yX4_spreadOfBytes cX4_spreadOfBytes 4 (some .int) ∈ tbk := tb_at 572 (by decide +kernel) rfl
set_option maxRecDepth 20000 in
theorem wM_L_124 : Cond.methodLink RL 124 yX6_nextPath ∈ tbk := tb_at 573 (by decide +kernel) rfl
set_option maxRecDepth 20000 in
theorem wI_X6_nextPath : Cond.instanceMethod yX6_nextPath ∈ tbk := tb_at 574 (by decide +kernel) rfl
set_option maxRecDepth 20000 in
theorem wS_X6_nextPath : Cond.selects RX6 yX6_nextPath yX6_nextPath ∈ tbk := tb_at 575 (by decide +kernel) rfl
set_option maxRecDepth 20000 in
theorem wC_X6_nextPath : Cond.code yX6_nextPath cX6_nextPath 2 (some .int) ∈ tbk := tb_at 576 (by decide +kernel) rfl
set_option maxRecDepth 20000 in
theorem wM_X6_173 : Cond.methodLink RX6 173 yX4_pathFor ∈ tbk := tb_at 577 (by decide +kernel) rfl
set_option maxRecDepth 20000 in
theorem wM_L_128 : Cond.methodLink RL 128 yX6_wouldReorder ∈ tbk := tb_at 578 (by decide +kernel) rfl
set_option maxRecDepth 20000 in
theorem wI_X6_wouldReorder : Cond.instanceMethod yX6_wouldReorder ∈ tbk := tb_at 579 (by decide +kernel) rfl
set_option maxRecDepth 20000 in
theorem wS_X6_wouldReorder : Cond.selects RX6 yX6_wouldReorder yX6_wouldReorder ∈ tbk := tb_at 580 (by decide +kernel) rfl
set_option maxRecDepth 20000 in
theorem wC_X6_wouldReorder : Cond.code yX6_wouldReorder cX6_wouldReorder 3 (some .int) ∈ tbk := tb_at 581 (by decide +kernel) rfl
set_option maxRecDepth 20000 in
theorem wM_X6_176 : Cond.methodLink RX6 176 yX4_wouldOvertake ∈ tbk := tb_at 582 (by decide +kernel) rfl
set_option maxRecDepth 20000 in
theorem wI_X4_wouldOvertake : Cond.instanceMethod yX4_wouldOvertake ∈ tbk := tb_at 583 (by decide +kernel) rfl
set_option maxRecDepth 20000 in
theorem wS_X4_wouldOvertake : Cond.selects RX4 yX4_wouldOvertake yX4_wouldOvertake ∈ tbk := tb_at 584 (by decide +kernel) rfl
set_option maxRecDepth 20000 in
theorem wC_X4_wouldOvertake : Cond.code yX4_wouldOvertake cX4_wouldOvertake 4 (some .boolean) ∈ tbk := tb_at 585 (by decide +kernel) rfl
set_option maxRecDepth 20000 in
theorem wM_X4_187 : Cond.methodLink RX4 187 yX1_isOvertakenBy ∈ tbk := tb_at 586 (by decide +kernel) rfl
set_option maxRecDepth 20000 in
theorem wM_L_132 : Cond.methodLink RL 132 yX6_flowlets ∈ tbk := tb_at 587 (by decide +kernel) rfl
set_option maxRecDepth 20000 in
theorem wI_X6_flowlets : Cond.instanceMethod yX6_flowlets ∈ tbk := tb_at 588 (by decide +kernel) rfl
set_option maxRecDepth 20000 in
theorem wS_X6_flowlets : Cond.selects RX6 yX6_flowlets yX6_flowlets ∈ tbk := tb_at 589 (by decide +kernel) rfl
set_option maxRecDepth 20000 in
theorem wC_X6_flowlets : Cond.code yX6_flowlets cX6_flowlets 2 (some .int) ∈ tbk := tb_at 590 (by decide +kernel) rfl
set_option maxRecDepth 20000 in
theorem wM_L_136 : Cond.methodLink RL 136 yX6_pathChanges ∈ tbk := tb_at 591 (by decide +kernel) rfl
set_option maxRecDepth 20000 in
theorem wI_X6_pathChanges : Cond.instanceMethod yX6_pathChanges ∈ tbk := tb_at 592 (by decide +kernel) rfl
set_option maxRecDepth 20000 in
theorem wS_X6_pathChanges : Cond.selects RX6 yX6_pathChanges yX6_pathChanges ∈ tbk := tb_at 593 (by decide +kernel) rfl
set_option maxRecDepth 20000 in
theorem wC_X6_pathChanges : Cond.code yX6_pathChanges cX6_pathChanges 2 (some .int) ∈ tbk := tb_at 594 (by decide +kernel) rfl
set_option maxRecDepth 20000 in
theorem wM_L_140 : Cond.methodLink RL 140 yX6_reordered ∈ tbk := tb_at 595 (by decide +kernel) rfl
set_option maxRecDepth 20000 in
theorem wI_X6_reordered : Cond.instanceMethod yX6_reordered ∈ tbk := tb_at 596 (by decide +kernel) rfl
set_option maxRecDepth 20000 in
theorem wS_X6_reordered : Cond.selects RX6 yX6_reordered yX6_reordered ∈ tbk := tb_at 597 (by decide +kernel) rfl
set_option maxRecDepth 20000 in
theorem wC_X6_reordered : Cond.code yX6_reordered cX6_reordered 2 (some .int) ∈ tbk := tb_at 598 (by decide +kernel) rfl
set_option maxRecDepth 20000 in
theorem wM_L_144 : Cond.methodLink RL 144 yX6_lastArrival ∈ tbk := tb_at 599 (by decide +kernel) rfl
set_option maxRecDepth 20000 in
theorem wI_X6_lastArrival : Cond.instanceMethod yX6_lastArrival ∈ tbk := tb_at 600 (by decide +kernel) rfl
set_option maxRecDepth 20000 in
theorem wS_X6_lastArrival : Cond.selects RX6 yX6_lastArrival yX6_lastArrival ∈ tbk := tb_at 601 (by decide +kernel) rfl
set_option maxRecDepth 20000 in
theorem wC_X6_lastArrival : Cond.code yX6_lastArrival cX6_lastArrival 2 (some .int) ∈ tbk := tb_at 602 (by decide +kernel) rfl
set_option maxRecDepth 20000 in
theorem wM_L_148 : Cond.methodLink RL 148 yX6_appendCharacter ∈ tbk := tb_at 603 (by decide +kernel) rfl
set_option maxRecDepth 20000 in
theorem wI_X6_appendCharacter : Cond.instanceMethod yX6_appendCharacter ∈ tbk := tb_at 604 (by decide +kernel) rfl
set_option maxRecDepth 20000 in
theorem wS_X6_appendCharacter : Cond.selects RX6 yX6_appendCharacter yX6_appendCharacter ∈ tbk := tb_at 605 (by decide +kernel) rfl
set_option maxRecDepth 20000 in
theorem wC_X6_appendCharacter : Cond.code yX6_appendCharacter cX6_appendCharacter 2 (some .int) ∈ tbk := tb_at 606 (by decide +kernel) rfl
set_option maxRecDepth 20000 in
theorem wM_X6_198 : Cond.methodLink RX6 198 yX5_isFull ∈ tbk := tb_at 607 (by decide +kernel) rfl
set_option maxRecDepth 20000 in
theorem wI_X5_isFull : Cond.instanceMethod yX5_isFull ∈ tbk := tb_at 608 (by decide +kernel) rfl
set_option maxRecDepth 20000 in
theorem wS_X5_isFull : Cond.selects RX5 yX5_isFull yX5_isFull ∈ tbk := tb_at 609 (by decide +kernel) rfl
set_option maxRecDepth 20000 in
theorem wC_X5_isFull : Cond.code yX5_isFull cX5_isFull 1 (some .boolean) ∈ tbk := tb_at 610 (by decide +kernel) rfl
set_option maxRecDepth 20000 in
theorem wM_X6_201 : Cond.methodLink RX6 201 yX5_append ∈ tbk := tb_at 611 (by decide +kernel) rfl
set_option maxRecDepth 20000 in
theorem wI_X5_append : Cond.instanceMethod yX5_append ∈ tbk := tb_at 612 (by decide +kernel) rfl
set_option maxRecDepth 20000 in
theorem wS_X5_append : Cond.selects RX5 yX5_append yX5_append ∈ tbk := tb_at 613 (by decide +kernel) rfl
set_option maxRecDepth 20000 in
theorem wC_X5_append : Cond.code yX5_append cX5_append 2 none ∈ tbk := tb_at 614 (by decide +kernel) rfl
set_option maxRecDepth 20000 in
theorem wM_L_152 : Cond.methodLink RL 152 yX6_clearText ∈ tbk := tb_at 615 (by decide +kernel) rfl
set_option maxRecDepth 20000 in
theorem wI_X6_clearText : Cond.instanceMethod yX6_clearText ∈ tbk := tb_at 616 (by decide +kernel) rfl
set_option maxRecDepth 20000 in
theorem wS_X6_clearText : Cond.selects RX6 yX6_clearText yX6_clearText ∈ tbk := tb_at 617 (by decide +kernel) rfl
set_option maxRecDepth 20000 in
theorem wC_X6_clearText : Cond.code yX6_clearText cX6_clearText 2 (some .int) ∈ tbk := tb_at 618 (by decide +kernel) rfl
set_option maxRecDepth 20000 in
theorem wM_X6_207 : Cond.methodLink RX6 207 yX5_clear ∈ tbk := tb_at 619 (by decide +kernel) rfl
set_option maxRecDepth 20000 in
theorem wI_X5_clear : Cond.instanceMethod yX5_clear ∈ tbk := tb_at 620 (by decide +kernel) rfl
set_option maxRecDepth 20000 in
theorem wS_X5_clear : Cond.selects RX5 yX5_clear yX5_clear ∈ tbk := tb_at 621 (by decide +kernel) rfl
set_option maxRecDepth 20000 in
theorem wC_X5_clear : Cond.code yX5_clear cX5_clear 1 none ∈ tbk := tb_at 622 (by decide +kernel) rfl
set_option maxRecDepth 20000 in
theorem wM_L_156 : Cond.methodLink RL 156 yX6_runTrace ∈ tbk := tb_at 623 (by decide +kernel) rfl
set_option maxRecDepth 20000 in
theorem wI_X6_runTrace : Cond.instanceMethod yX6_runTrace ∈ tbk := tb_at 624 (by decide +kernel) rfl
set_option maxRecDepth 20000 in
theorem wS_X6_runTrace : Cond.selects RX6 yX6_runTrace yX6_runTrace ∈ tbk := tb_at 625 (by decide +kernel) rfl
set_option maxRecDepth 20000 in
theorem wC_X6_runTrace : Cond.code yX6_runTrace cX6_runTrace 4 (some .int) ∈ tbk := tb_at 626 (by decide +kernel) rfl
set_option maxRecDepth 20000 in
theorem wM_X6_210 : Cond.methodLink RX6 210 yX5_errorPosition ∈ tbk := tb_at 627 (by decide +kernel) rfl
set_option maxRecDepth 20000 in
theorem wI_X5_errorPosition : Cond.instanceMethod yX5_errorPosition ∈ tbk := tb_at 628 (by decide +kernel) rfl
set_option maxRecDepth 20000 in
theorem wS_X5_errorPosition : Cond.selects RX5 yX5_errorPosition yX5_errorPosition ∈ tbk := tb_at 629 (by decide +kernel) rfl
set_option maxRecDepth 20000 in
theorem wC_X5_errorPosition : Cond.code yX5_errorPosition cX5_errorPosition 3 (some .int) ∈ tbk := tb_at 630 (by decide +kernel) rfl
set_option maxRecDepth 20000 in
theorem wM_X5_25 : Cond.methodLink RX5 25 yX5_rewind ∈ tbk := tb_at 631 (by decide +kernel) rfl
set_option maxRecDepth 20000 in
theorem wI_X5_rewind : Cond.instanceMethod yX5_rewind ∈ tbk := tb_at 632 (by decide +kernel) rfl
set_option maxRecDepth 20000 in
theorem wS_X5_rewind : Cond.selects RX5 yX5_rewind yX5_rewind ∈ tbk := tb_at 633 (by decide +kernel) rfl
set_option maxRecDepth 20000 in
theorem wC_X5_rewind : Cond.code yX5_rewind cX5_rewind 1 none ∈ tbk := tb_at 634 (by decide +kernel) rfl
set_option maxRecDepth 20000 in
theorem wM_X5_22 : Cond.methodLink RX5 22 yX5_skipSpaces ∈ tbk := tb_at 635 (by decide +kernel) rfl
set_option maxRecDepth 20000 in
theorem wI_X5_skipSpaces : Cond.instanceMethod yX5_skipSpaces ∈ tbk := tb_at 636 (by decide +kernel) rfl
set_option maxRecDepth 20000 in
theorem wS_X5_skipSpaces : Cond.selects RX5 yX5_skipSpaces yX5_skipSpaces ∈ tbk := tb_at 637 (by decide +kernel) rfl
set_option maxRecDepth 20000 in
theorem wC_X5_skipSpaces : Cond.code yX5_skipSpaces cX5_skipSpaces 1 none ∈ tbk := tb_at 638 (by decide +kernel) rfl
set_option maxRecDepth 20000 in
theorem wM_X5_56 : Cond.methodLink RX5 56 yX5_codeHere ∈ tbk := tb_at 639 (by decide +kernel) rfl
set_option maxRecDepth 20000 in
theorem wI_X5_codeHere : Cond.instanceMethod yX5_codeHere ∈ tbk := tb_at 640 (by decide +kernel) rfl
set_option maxRecDepth 20000 in
theorem wS_X5_codeHere : Cond.selects RX5 yX5_codeHere yX5_codeHere ∈ tbk := tb_at 641 (by decide +kernel) rfl
set_option maxRecDepth 20000 in
theorem wC_X5_codeHere : Cond.code yX5_codeHere cX5_codeHere 1 (some .int) ∈ tbk := tb_at 642 (by decide +kernel) rfl
set_option maxRecDepth 20000 in
theorem wM_X5_28 : Cond.methodLink RX5 28 yX5_isAtEnd ∈ tbk := tb_at 643 (by decide +kernel) rfl
set_option maxRecDepth 20000 in
theorem wI_X5_isAtEnd : Cond.instanceMethod yX5_isAtEnd ∈ tbk := tb_at 644 (by decide +kernel) rfl
set_option maxRecDepth 20000 in
theorem wS_X5_isAtEnd : Cond.selects RX5 yX5_isAtEnd yX5_isAtEnd ∈ tbk := tb_at 645 (by decide +kernel) rfl
set_option maxRecDepth 20000 in
theorem wC_X5_isAtEnd : Cond.code yX5_isAtEnd cX5_isAtEnd 1 (some .boolean) ∈ tbk := tb_at 646 (by decide +kernel) rfl
set_option maxRecDepth 20000 in
theorem wM_X5_32 : Cond.methodLink RX5 32 yX5_readItem ∈ tbk := tb_at 647 (by decide +kernel) rfl
set_option maxRecDepth 20000 in
theorem wI_X5_readItem : Cond.instanceMethod yX5_readItem ∈ tbk := tb_at 648 (by decide +kernel) rfl
set_option maxRecDepth 20000 in
theorem wS_X5_readItem : Cond.selects RX5 yX5_readItem yX5_readItem ∈ tbk := tb_at 649 (by decide +kernel) rfl
set_option maxRecDepth 20000 in
theorem wC_X5_readItem : Cond.code yX5_readItem cX5_readItem 1 (some .boolean) ∈ tbk := tb_at 650 (by decide +kernel) rfl
set_option maxRecDepth 20000 in
theorem wM_X5_35 : Cond.methodLink RX5 35 yX5_accept ∈ tbk := tb_at 651 (by decide +kernel) rfl
set_option maxRecDepth 20000 in
theorem wI_X5_accept : Cond.instanceMethod yX5_accept ∈ tbk := tb_at 652 (by decide +kernel) rfl
set_option maxRecDepth 20000 in
theorem wS_X5_accept : Cond.selects RX5 yX5_accept yX5_accept ∈ tbk := tb_at 653 (by decide +kernel) rfl
set_option maxRecDepth 20000 in
theorem wC_X5_accept : Cond.code yX5_accept cX5_accept 2 (some .boolean) ∈ tbk := tb_at 654 (by decide +kernel) rfl
set_option maxRecDepth 20000 in
theorem wM_X5_43 : Cond.methodLink RX5 43 yX5_readNumber ∈ tbk := tb_at 655 (by decide +kernel) rfl
set_option maxRecDepth 20000 in
theorem wI_X5_readNumber : Cond.instanceMethod yX5_readNumber ∈ tbk := tb_at 656 (by decide +kernel) rfl
set_option maxRecDepth 20000 in
theorem wS_X5_readNumber : Cond.selects RX5 yX5_readNumber yX5_readNumber ∈ tbk := tb_at 657 (by decide +kernel) rfl
set_option maxRecDepth 20000 in
theorem wC_X5_readNumber : Cond.code yX5_readNumber cX5_readNumber 3 (some .int) ∈ tbk := tb_at 658 (by decide +kernel) rfl
set_option maxRecDepth 20000 in
theorem wM_X5_53 : Cond.methodLink RX5 53 yX5_isDigitHere ∈ tbk := tb_at 659 (by decide +kernel) rfl
set_option maxRecDepth 20000 in
theorem wI_X5_isDigitHere : Cond.instanceMethod yX5_isDigitHere ∈ tbk := tb_at 660 (by decide +kernel) rfl
set_option maxRecDepth 20000 in
theorem wS_X5_isDigitHere : Cond.selects RX5 yX5_isDigitHere yX5_isDigitHere ∈ tbk := tb_at 661 (by decide +kernel) rfl
set_option maxRecDepth 20000 in
theorem wC_X5_isDigitHere : Cond.code yX5_isDigitHere cX5_isDigitHere 1 (some .boolean) ∈ tbk := tb_at 662 (by decide +kernel) rfl
set_option maxRecDepth 20000 in
theorem wM_X5_59 : Cond.methodLinkNest RX5 59 yX6_isBetween "FlowletSwitch" ∈ tbk := tb_at 663 (by decide +kernel) rfl
set_option maxRecDepth 20000 in
theorem wM_X6_213 : Cond.methodLink RX6 213 yX5_rewind ∈ tbk := tb_at 664 (by decide +kernel) rfl
set_option maxRecDepth 20000 in
theorem wM_X6_216 : Cond.methodLink RX6 216 yX5_readItem ∈ tbk := tb_at 665 (by decide +kernel) rfl
set_option maxRecDepth 20000 in
theorem wM_X6_219 : Cond.methodLink RX6 219 yX6_runItem ∈ tbk := tb_at 666 (by decide +kernel) rfl
set_option maxRecDepth 20000 in
theorem wI_X6_runItem : Cond.instanceMethod yX6_runItem ∈ tbk := tb_at 668 (by decide +kernel) rfl
set_option maxRecDepth 20000 in
theorem wC_X6_runItem : Cond.code yX6_runItem cX6_runItem 2 (some .boolean) ∈ tbk := tb_at 669 (by decide +kernel) rfl
set_option maxRecDepth 20000 in
theorem wM_L_160 : Cond.methodLink RL 160 yX6_undo ∈ tbk := tb_at 670 (by decide +kernel) rfl
set_option maxRecDepth 20000 in
theorem wI_X6_undo : Cond.instanceMethod yX6_undo ∈ tbk := tb_at 671 (by decide +kernel) rfl
set_option maxRecDepth 20000 in
theorem wS_X6_undo : Cond.selects RX6 yX6_undo yX6_undo ∈ tbk := tb_at 672 (by decide +kernel) rfl
set_option maxRecDepth 20000 in
theorem wC_X6_undo : Cond.code yX6_undo cX6_undo 1 (some .int) ∈ tbk := tb_at 673 (by decide +kernel) rfl
set_option maxRecDepth 20000 in
theorem wM_X6_225 : Cond.methodLink RX6 225 yX3_popInto ∈ tbk := tb_at 674 (by decide +kernel) rfl
set_option maxRecDepth 20000 in
theorem wI_X3_popInto : Cond.instanceMethod yX3_popInto ∈ tbk := tb_at 675 (by decide +kernel) rfl
set_option maxRecDepth 20000 in
theorem wS_X3_popInto : Cond.selects RX3 yX3_popInto yX3_popInto ∈ tbk := tb_at 676 (by decide +kernel) rfl
set_option maxRecDepth 20000 in
theorem wC_X3_popInto : Cond.code yX3_popInto cX3_popInto 2 none ∈ tbk := tb_at 677 (by decide +kernel) rfl
set_option maxRecDepth 20000 in
theorem wM_L_164 : Cond.methodLink RL 164 yX6_save ∈ tbk := tb_at 678 (by decide +kernel) rfl
set_option maxRecDepth 20000 in
theorem wI_X6_save : Cond.instanceMethod yX6_save ∈ tbk := tb_at 679 (by decide +kernel) rfl
set_option maxRecDepth 20000 in
theorem wS_X6_save : Cond.selects RX6 yX6_save yX6_save ∈ tbk := tb_at 680 (by decide +kernel) rfl
set_option maxRecDepth 20000 in
theorem wC_X6_save : Cond.code yX6_save cX6_save 2 (some .int) ∈ tbk := tb_at 681 (by decide +kernel) rfl
set_option maxRecDepth 20000 in
theorem wM_X6_228 : Cond.methodLink RX6 228 yX4_copyFrom ∈ tbk := tb_at 682 (by decide +kernel) rfl
set_option maxRecDepth 20000 in
theorem wM_L_168 : Cond.methodLink RL 168 yX6_restore ∈ tbk := tb_at 683 (by decide +kernel) rfl
set_option maxRecDepth 20000 in
theorem wI_X6_restore : Cond.instanceMethod yX6_restore ∈ tbk := tb_at 684 (by decide +kernel) rfl
set_option maxRecDepth 20000 in
theorem wS_X6_restore : Cond.selects RX6 yX6_restore yX6_restore ∈ tbk := tb_at 685 (by decide +kernel) rfl
set_option maxRecDepth 20000 in
theorem wC_X6_restore : Cond.code yX6_restore cX6_restore 2 (some .int) ∈ tbk := tb_at 686 (by decide +kernel) rfl
set_option maxRecDepth 20000 in
theorem wM_X6_231 : Cond.methodLink RX6 231 yX3_discardAll ∈ tbk := tb_at 687 (by decide +kernel) rfl
set_option maxRecDepth 20000 in
theorem wI_X3_discardAll : Cond.instanceMethod yX3_discardAll ∈ tbk := tb_at 688 (by decide +kernel) rfl
set_option maxRecDepth 20000 in
theorem wS_X3_discardAll : Cond.selects RX3 yX3_discardAll yX3_discardAll ∈ tbk := tb_at 689 (by decide +kernel) rfl
set_option maxRecDepth 20000 in
theorem wC_X3_discardAll : Cond.code yX3_discardAll cX3_discardAll 1 none ∈ tbk := tb_at 690 (by decide +kernel) rfl
set_option maxRecDepth 20000 in
theorem wL_L_10 : Cond.classLink RL 10 RX7 ∈ tbk := tb_at 691 (by decide +kernel) rfl
set_option maxRecDepth 20000 in
theorem wB_X7 : Cond.instantiable RX7 11 ∈ tbk := tb_at 692 (by decide +kernel) rfl
set_option maxRecDepth 20000 in
theorem wM_L_12 : Cond.methodLink RL 12 yX7_init ∈ tbk := tb_at 693 (by decide +kernel) rfl
set_option maxRecDepth 20000 in
theorem wI_X7_init : Cond.instanceMethod yX7_init ∈ tbk := tb_at 694 (by decide +kernel) rfl
set_option maxRecDepth 20000 in
theorem wC_X7_init : Cond.code yX7_init cX7_init 1 none ∈ tbk := tb_at 695 (by decide +kernel) rfl
set_option maxRecDepth 20000 in
theorem wM_X7_1 : Cond.methodLink RX7 1 objectInit ∈ tbk := tb_at 696 (by decide +kernel) rfl
set_option maxRecDepth 20000 in
theorem wM_X7_32 : Cond.methodLink RX7 32 yX7_makeNew ∈ tbk := tb_at 697 (by decide +kernel) rfl
set_option maxRecDepth 20000 in
theorem wI_X7_makeNew : Cond.instanceMethod yX7_makeNew ∈ tbk := tb_at 699 (by decide +kernel) rfl
set_option maxRecDepth 20000 in
theorem wC_X7_makeNew : Cond.code yX7_makeNew cX7_makeNew 4 none ∈ tbk := tb_at 700 (by decide +kernel) rfl
set_option maxRecDepth 20000 in
theorem wF_X7_7 : Cond.fieldLink RX7 7 "FlowletSwitchModel" "now" "[I" ∈ tbk := tb_at 701 (by decide +kernel) rfl
set_option maxRecDepth 20000 in
theorem wF_X7_13 : Cond.fieldLink RX7 13 "FlowletSwitchModel" "saved" "[I" ∈ tbk := tb_at 702 (by decide +kernel) rfl
set_option maxRecDepth 20000 in
theorem wF_X7_40 : Cond.fieldLink RX7 40 "FlowletSwitchModel" "savedCount" "I" ∈ tbk := tb_at 703 (by decide +kernel) rfl
set_option maxRecDepth 20000 in
theorem wF_X7_16 : Cond.fieldLink RX7 16 "FlowletSwitchModel" "slots" "[I" ∈ tbk := tb_at 704 (by decide +kernel) rfl
set_option maxRecDepth 20000 in
theorem wF_X7_19 : Cond.fieldLink RX7 19 "FlowletSwitchModel" "isFilled" "[Z" ∈ tbk := tb_at 705 (by decide +kernel) rfl
set_option maxRecDepth 20000 in
theorem wF_X7_23 : Cond.fieldLink RX7 23 "FlowletSwitchModel" "text" "[I" ∈ tbk := tb_at 706 (by decide +kernel) rfl
set_option maxRecDepth 20000 in
theorem wF_X7_129 : Cond.fieldLink RX7 129 "FlowletSwitchModel" "length" "I" ∈ tbk := tb_at 707 (by decide +kernel) rfl
set_option maxRecDepth 20000 in
theorem wF_X7_132 : Cond.fieldLink RX7 132 "FlowletSwitchModel" "at" "I" ∈ tbk := tb_at 708 (by decide +kernel) rfl
set_option maxRecDepth 20000 in
theorem wF_X7_144 : Cond.fieldLink RX7 144 "FlowletSwitchModel" "items" "I" ∈ tbk := tb_at 709 (by decide +kernel) rfl
set_option maxRecDepth 20000 in
theorem wF_X7_26 : Cond.fieldLink RX7 26 "FlowletSwitchModel" "itemFlow" "[I" ∈ tbk := tb_at 710 (by decide +kernel) rfl
set_option maxRecDepth 20000 in
theorem wF_X7_29 : Cond.fieldLink RX7 29 "FlowletSwitchModel" "itemNumber" "[I" ∈ tbk := tb_at 711 (by decide +kernel) rfl
set_option maxRecDepth 20000 in
theorem wM_L_17 : Cond.methodLink RL 17 yX7_configure ∈ tbk := tb_at 735 (by decide +kernel) rfl
set_option maxRecDepth 20000 in
theorem wI_X7_configure : Cond.instanceMethod yX7_configure ∈ tbk := tb_at 736 (by decide +kernel) rfl
set_option maxRecDepth 20000 in
theorem wS_X7_configure : Cond.selects RX7 yX7_configure yX7_configure ∈ tbk := tb_at 737 (by decide +kernel) rfl
set_option maxRecDepth 20000 in
theorem wC_X7_configure : Cond.code yX7_configure cX7_configure 5 (some .int) ∈ tbk := tb_at 738 (by decide +kernel) rfl
set_option maxRecDepth 20000 in
theorem wM_X7_36 : Cond.methodLink RX7 36 yX7_in ∈ tbk := tb_at 739 (by decide +kernel) rfl
set_option maxRecDepth 20000 in
theorem wT_X7_in : Cond.static yX7_in ∈ tbk := tb_at 740 (by decide +kernel) rfl
set_option maxRecDepth 20000 in
theorem wC_X7_in : Cond.code yX7_in cX7_in 3 (some .boolean) ∈ tbk := tb_at 741 (by decide +kernel) rfl
set_option maxRecDepth 20000 in
theorem wM_X7_44 : Cond.methodLink RX7 44 yX7_keep ∈ tbk := tb_at 742 (by decide +kernel) rfl
set_option maxRecDepth 20000 in
theorem wI_X7_keep : Cond.instanceMethod yX7_keep ∈ tbk := tb_at 744 (by decide +kernel) rfl
set_option maxRecDepth 20000 in
theorem wC_X7_keep : Cond.code yX7_keep cX7_keep 2 none ∈ tbk := tb_at 745 (by decide +kernel) rfl
set_option maxRecDepth 20000 in
theorem wM_X7_47 : Cond.methodLink RX7 47 yX7_slotOf ∈ tbk := tb_at 746 (by decide +kernel) rfl
set_option maxRecDepth 20000 in
theorem wI_X7_slotOf : Cond.instanceMethod yX7_slotOf ∈ tbk := tb_at 748 (by decide +kernel) rfl
set_option maxRecDepth 20000 in
theorem wC_X7_slotOf : Cond.code yX7_slotOf cX7_slotOf 2 (some .int) ∈ tbk := tb_at 749 (by decide +kernel) rfl
set_option maxRecDepth 20000 in
theorem wM_L_21 : Cond.methodLink RL 21 yX7_setDelay ∈ tbk := tb_at 750 (by decide +kernel) rfl
set_option maxRecDepth 20000 in
theorem wI_X7_setDelay : Cond.instanceMethod yX7_setDelay ∈ tbk := tb_at 751 (by decide +kernel) rfl
set_option maxRecDepth 20000 in
theorem wS_X7_setDelay : Cond.selects RX7 yX7_setDelay yX7_setDelay ∈ tbk := tb_at 752 (by decide +kernel) rfl
set_option maxRecDepth 20000 in
theorem wC_X7_setDelay : Cond.code yX7_setDelay cX7_setDelay 3 (some .int) ∈ tbk := tb_at 753 (by decide +kernel) rfl
set_option maxRecDepth 20000 in
theorem wM_X7_51 : Cond.methodLink RX7 51 yX7_isPath ∈ tbk := tb_at 754 (by decide +kernel) rfl
set_option maxRecDepth 20000 in
theorem wI_X7_isPath : Cond.instanceMethod yX7_isPath ∈ tbk := tb_at 756 (by decide +kernel) rfl
set_option maxRecDepth 20000 in
theorem wC_X7_isPath : Cond.code yX7_isPath cX7_isPath 2 (some .boolean) ∈ tbk := tb_at 757 (by decide +kernel) rfl
set_option maxRecDepth 20000 in
theorem wM_X7_55 : Cond.methodLink RX7 55 yX7_change ∈ tbk := tb_at 758 (by decide +kernel) rfl
set_option maxRecDepth 20000 in
theorem wI_X7_change : Cond.instanceMethod yX7_change ∈ tbk := tb_at 760 (by decide +kernel) rfl
set_option maxRecDepth 20000 in
theorem wC_X7_change : Cond.code yX7_change cX7_change 4 (some .int) ∈ tbk := tb_at 761 (by decide +kernel) rfl
set_option maxRecDepth 20000 in
theorem wM_L_25 : Cond.methodLink RL 25 yX7_setRate ∈ tbk := tb_at 762 (by decide +kernel) rfl
set_option maxRecDepth 20000 in
theorem wI_X7_setRate : Cond.instanceMethod yX7_setRate ∈ tbk := tb_at 763 (by decide +kernel) rfl
set_option maxRecDepth 20000 in
theorem wS_X7_setRate : Cond.selects RX7 yX7_setRate yX7_setRate ∈ tbk := tb_at 764 (by decide +kernel) rfl
set_option maxRecDepth 20000 in
theorem wC_X7_setRate : Cond.code yX7_setRate cX7_setRate 3 (some .int) ∈ tbk := tb_at 765 (by decide +kernel) rfl
set_option maxRecDepth 20000 in
theorem wM_L_29 : Cond.methodLink RL 29 yX7_setRemoteLevel ∈ tbk := tb_at 766 (by decide +kernel) rfl
set_option maxRecDepth 20000 in
theorem wI_X7_setRemoteLevel : Cond.instanceMethod yX7_setRemoteLevel ∈ tbk := tb_at 767 (by decide +kernel) rfl
set_option maxRecDepth 20000 in
theorem wS_X7_setRemoteLevel : Cond.selects RX7 yX7_setRemoteLevel yX7_setRemoteLevel ∈ tbk := tb_at 768 (by decide +kernel) rfl
set_option maxRecDepth 20000 in
theorem wC_X7_setRemoteLevel : Cond.code yX7_setRemoteLevel cX7_setRemoteLevel 3 (some .int) ∈ tbk := tb_at 769 (by decide +kernel) rfl
set_option maxRecDepth 20000 in
theorem wM_L_34 : Cond.methodLink RL 34 yX7_setMode ∈ tbk := tb_at 770 (by decide +kernel) rfl
set_option maxRecDepth 20000 in
theorem wI_X7_setMode : Cond.instanceMethod yX7_setMode ∈ tbk := tb_at 771 (by decide +kernel) rfl
set_option maxRecDepth 20000 in
theorem wS_X7_setMode : Cond.selects RX7 yX7_setMode yX7_setMode ∈ tbk := tb_at 772 (by decide +kernel) rfl
set_option maxRecDepth 20000 in
theorem wC_X7_setMode : Cond.code yX7_setMode cX7_setMode 2 (some .int) ∈ tbk := tb_at 773 (by decide +kernel) rfl
set_option maxRecDepth 20000 in
theorem wM_L_38 : Cond.methodLink RL 38 yX7_setDetection ∈ tbk := tb_at 774 (by decide +kernel) rfl
set_option maxRecDepth 20000 in
theorem wI_X7_setDetection : Cond.instanceMethod yX7_setDetection ∈ tbk := tb_at 775 (by decide +kernel) rfl
set_option maxRecDepth 20000 in
theorem wS_X7_setDetection : Cond.selects RX7 yX7_setDetection yX7_setDetection ∈ tbk := tb_at 776 (by decide +kernel) rfl
set_option maxRecDepth 20000 in
theorem wC_X7_setDetection : Cond.code yX7_setDetection cX7_setDetection 2 (some .int) ∈ tbk := tb_at 777 (by decide +kernel) rfl
set_option maxRecDepth 20000 in
theorem wM_L_42 : Cond.methodLink RL 42 yX7_setGap ∈ tbk := tb_at 778 (by decide +kernel) rfl
set_option maxRecDepth 20000 in
theorem wI_X7_setGap : Cond.instanceMethod yX7_setGap ∈ tbk := tb_at 779 (by decide +kernel) rfl
set_option maxRecDepth 20000 in
theorem wS_X7_setGap : Cond.selects RX7 yX7_setGap yX7_setGap ∈ tbk := tb_at 780 (by decide +kernel) rfl
set_option maxRecDepth 20000 in
theorem wC_X7_setGap : Cond.code yX7_setGap cX7_setGap 2 (some .int) ∈ tbk := tb_at 781 (by decide +kernel) rfl
set_option maxRecDepth 20000 in
theorem wM_L_46 : Cond.methodLink RL 46 yX7_setShift ∈ tbk := tb_at 782 (by decide +kernel) rfl
set_option maxRecDepth 20000 in
theorem wI_X7_setShift : Cond.instanceMethod yX7_setShift ∈ tbk := tb_at 783 (by decide +kernel) rfl
set_option maxRecDepth 20000 in
theorem wS_X7_setShift : Cond.selects RX7 yX7_setShift yX7_setShift ∈ tbk := tb_at 784 (by decide +kernel) rfl
set_option maxRecDepth 20000 in
theorem wC_X7_setShift : Cond.code yX7_setShift cX7_setShift 2 (some .int) ∈ tbk := tb_at 785 (by decide +kernel) rfl
set_option maxRecDepth 20000 in
theorem wM_L_50 : Cond.methodLink RL 50 yX7_setGenerator ∈ tbk := tb_at 786 (by decide +kernel) rfl
set_option maxRecDepth 20000 in
theorem wI_X7_setGenerator : Cond.instanceMethod yX7_setGenerator ∈ tbk := tb_at 787 (by decide +kernel) rfl
set_option maxRecDepth 20000 in
theorem wS_X7_setGenerator : Cond.selects RX7 yX7_setGenerator yX7_setGenerator ∈ tbk := tb_at 788 (by decide +kernel) rfl
set_option maxRecDepth 20000 in
theorem wC_X7_setGenerator : Cond.code yX7_setGenerator cX7_setGenerator 2 (some .int) ∈ tbk := tb_at 789 (by decide +kernel) rfl
set_option maxRecDepth 20000 in
theorem wM_L_54 : Cond.methodLink RL 54 yX7_advance ∈ tbk := tb_at 790 (by decide +kernel) rfl
set_option maxRecDepth 20000 in
theorem wI_X7_advance : Cond.instanceMethod yX7_advance ∈ tbk := tb_at 791 (by decide +kernel) rfl
set_option maxRecDepth 20000 in
theorem wS_X7_advance : Cond.selects RX7 yX7_advance yX7_advance ∈ tbk := tb_at 792 (by decide +kernel) rfl
set_option maxRecDepth 20000 in
theorem wC_X7_advance : Cond.code yX7_advance cX7_advance 3 (some .int) ∈ tbk := tb_at 793 (by decide +kernel) rfl
set_option maxRecDepth 20000 in
theorem wM_X7_66 : Cond.methodLink RX7 66 yX7_whyNotPass ∈ tbk := tb_at 794 (by decide +kernel) rfl
set_option maxRecDepth 20000 in
theorem wI_X7_whyNotPass : Cond.instanceMethod yX7_whyNotPass ∈ tbk := tb_at 796 (by decide +kernel) rfl
set_option maxRecDepth 20000 in
theorem wC_X7_whyNotPass : Cond.code yX7_whyNotPass cX7_whyNotPass 2 (some .int) ∈ tbk := tb_at 797 (by decide +kernel) rfl
set_option maxRecDepth 20000 in
theorem wK_X7_65 : Cond.constant RX7 65 (1000000) ∈ tbk := tb_at 798 (by decide +kernel) rfl
set_option maxRecDepth 20000 in
theorem wM_X7_69 : Cond.methodLink RX7 69 yX7_pass ∈ tbk := tb_at 799 (by decide +kernel) rfl
set_option maxRecDepth 20000 in
theorem wI_X7_pass : Cond.instanceMethod yX7_pass ∈ tbk := tb_at 801 (by decide +kernel) rfl
set_option maxRecDepth 20000 in
theorem wC_X7_pass : Cond.code yX7_pass cX7_pass 3 (some .int) ∈ tbk := tb_at 802 (by decide +kernel) rfl
set_option maxRecDepth 20000 in
theorem wM_X7_62 : Cond.methodLink RX7 62 yX7_tick ∈ tbk := tb_at 803 (by decide +kernel) rfl
set_option maxRecDepth 20000 in
theorem wI_X7_tick : Cond.instanceMethod yX7_tick ∈ tbk := tb_at 805 (by decide +kernel) rfl
set_option maxRecDepth 20000 in
theorem wC_X7_tick : Cond.code yX7_tick cX7_tick 2 none ∈ tbk := tb_at 806 (by decide +kernel) rfl
set_option maxRecDepth 20000 in
theorem wM_X7_59 : Cond.methodLink RX7 59 yX7_age ∈ tbk := tb_at 807 (by decide +kernel) rfl
set_option maxRecDepth 20000 in
theorem wI_X7_age : Cond.instanceMethod yX7_age ∈ tbk := tb_at 809 (by decide +kernel) rfl
set_option maxRecDepth 20000 in
theorem wC_X7_age : Cond.code yX7_age cX7_age 2 none ∈ tbk := tb_at 810 (by decide +kernel) rfl
set_option maxRecDepth 20000 in
theorem wM_L_58 : Cond.methodLink RL 58 yX7_send ∈ tbk := tb_at 811 (by decide +kernel) rfl
set_option maxRecDepth 20000 in
theorem wI_X7_send : Cond.instanceMethod yX7_send ∈ tbk := tb_at 812 (by decide +kernel) rfl
set_option maxRecDepth 20000 in
theorem wS_X7_send : Cond.selects RX7 yX7_send yX7_send ∈ tbk := tb_at 813 (by decide +kernel) rfl
set_option maxRecDepth 20000 in
theorem wC_X7_send : Cond.code yX7_send cX7_send 3 (some .int) ∈ tbk := tb_at 814 (by decide +kernel) rfl
set_option maxRecDepth 20000 in
theorem wM_X7_108 : Cond.methodLink RX7 108 yX7_isFlow ∈ tbk := tb_at 815 (by decide +kernel) rfl
set_option maxRecDepth 20000 in
theorem wT_X7_isFlow : Cond.static yX7_isFlow ∈ tbk := tb_at 816 (by decide +kernel) rfl
set_option maxRecDepth 20000 in
theorem wC_X7_isFlow : Cond.code yX7_isFlow cX7_isFlow 1 (some .boolean) ∈ tbk := tb_at 817 (by decide +kernel) rfl
set_option maxRecDepth 20000 in
theorem wM_X7_111 : Cond.methodLink RX7 111 yX7_isSize ∈ tbk := tb_at 818 (by decide +kernel) rfl
set_option maxRecDepth 20000 in
theorem wT_X7_isSize : Cond.static yX7_isSize ∈ tbk := tb_at 819 (by decide +kernel) rfl
set_option maxRecDepth 20000 in
theorem wC_X7_isSize : Cond.code yX7_isSize cX7_isSize 1 (some .boolean) ∈ tbk := tb_at 820 (by decide +kernel) rfl
set_option maxRecDepth 20000 in
theorem wM_X7_114 : Cond.methodLink RX7 114 yX7_transmit ∈ tbk := tb_at 821 (by decide +kernel) rfl
set_option maxRecDepth 20000 in
theorem wI_X7_transmit : Cond.instanceMethod yX7_transmit ∈ tbk := tb_at 823 (by decide +kernel) rfl
set_option maxRecDepth 20000 in
theorem wC_X7_transmit : Cond.code yX7_transmit cX7_transmit 6 (some .int) ∈ tbk := tb_at 824 (by decide +kernel) rfl
set_option maxRecDepth 20000 in
theorem wM_X7_96 : Cond.methodLink RX7 96 yX7_choose ∈ tbk := tb_at 825 (by decide +kernel) rfl
set_option maxRecDepth 20000 in
theorem wI_X7_choose : Cond.instanceMethod yX7_choose ∈ tbk := tb_at 827 (by decide +kernel) rfl
set_option maxRecDepth 20000 in
theorem wC_X7_choose : Cond.code yX7_choose cX7_choose 3 (some .int) ∈ tbk := tb_at 828 (by decide +kernel) rfl
set_option maxRecDepth 20000 in
theorem wM_X7_81 : Cond.methodLink RX7 81 yX7_isLive ∈ tbk := tb_at 829 (by decide +kernel) rfl
set_option maxRecDepth 20000 in
theorem wI_X7_isLive : Cond.instanceMethod yX7_isLive ∈ tbk := tb_at 831 (by decide +kernel) rfl
set_option maxRecDepth 20000 in
theorem wC_X7_isLive : Cond.code yX7_isLive cX7_isLive 3 (some .boolean) ∈ tbk := tb_at 832 (by decide +kernel) rfl
set_option maxRecDepth 20000 in
theorem wM_X7_84 : Cond.methodLink RX7 84 yX7_leastLoaded ∈ tbk := tb_at 833 (by decide +kernel) rfl
set_option maxRecDepth 20000 in
theorem wI_X7_leastLoaded : Cond.instanceMethod yX7_leastLoaded ∈ tbk := tb_at 835 (by decide +kernel) rfl
set_option maxRecDepth 20000 in
theorem wC_X7_leastLoaded : Cond.code yX7_leastLoaded cX7_leastLoaded 4 (some .int) ∈ tbk := tb_at 836 (by decide +kernel) rfl
set_option maxRecDepth 20000 in
theorem wM_X7_72 : Cond.methodLink RX7 72 yX7_metricOf ∈ tbk := tb_at 837 (by decide +kernel) rfl
set_option maxRecDepth 20000 in
theorem wI_X7_metricOf : Cond.instanceMethod yX7_metricOf ∈ tbk := tb_at 839 (by decide +kernel) rfl
set_option maxRecDepth 20000 in
theorem wC_X7_metricOf : Cond.code yX7_metricOf cX7_metricOf 3 (some .int) ∈ tbk := tb_at 840 (by decide +kernel) rfl
set_option maxRecDepth 20000 in
theorem wM_X7_87 : Cond.methodLink RX7 87 yX7_nextGenerator ∈ tbk := tb_at 841 (by decide +kernel) rfl
set_option maxRecDepth 20000 in
theorem wI_X7_nextGenerator : Cond.instanceMethod yX7_nextGenerator ∈ tbk := tb_at 843 (by decide +kernel) rfl
set_option maxRecDepth 20000 in
theorem wC_X7_nextGenerator : Cond.code yX7_nextGenerator cX7_nextGenerator 1 (some .int) ∈ tbk := tb_at 844 (by decide +kernel) rfl
set_option maxRecDepth 20000 in
theorem wK_X7_75 : Cond.constantLong RX7 75 (1103515245) ∈ tbk := tb_at 845 (by decide +kernel) rfl
set_option maxRecDepth 20000 in
theorem wK_X7_77 : Cond.constantLong RX7 77 (12345) ∈ tbk := tb_at 846 (by decide +kernel) rfl
set_option maxRecDepth 20000 in
theorem wK_X7_79 : Cond.constantLong RX7 79 (2147483648) ∈ tbk := tb_at 847 (by decide +kernel) rfl
set_option maxRecDepth 20000 in
theorem wK_X7_91 : Cond.constant RX7 91 (65536) ∈ tbk := tb_at 848 (by decide +kernel) rfl
set_option maxRecDepth 20000 in
theorem wM_X7_99 : Cond.methodLink RX7 99 yX7_take ∈ tbk := tb_at 849 (by decide +kernel) rfl
set_option maxRecDepth 20000 in
theorem wI_X7_take : Cond.instanceMethod yX7_take ∈ tbk := tb_at 851 (by decide +kernel) rfl
set_option maxRecDepth 20000 in
theorem wC_X7_take : Cond.code yX7_take cX7_take 4 none ∈ tbk := tb_at 852 (by decide +kernel) rfl
set_option maxRecDepth 20000 in
theorem wM_X7_92 : Cond.methodLink RX7 92 yX7_isByFlowlets ∈ tbk := tb_at 853 (by decide +kernel) rfl
set_option maxRecDepth 20000 in
theorem wI_X7_isByFlowlets : Cond.instanceMethod yX7_isByFlowlets ∈ tbk := tb_at 855 (by decide +kernel) rfl
set_option maxRecDepth 20000 in
theorem wC_X7_isByFlowlets : Cond.code yX7_isByFlowlets cX7_isByFlowlets 1 (some .boolean) ∈ tbk := tb_at 856 (by decide +kernel) rfl
set_option maxRecDepth 20000 in
theorem wM_X7_102 : Cond.methodLink RX7 102 yX7_isTooBusy ∈ tbk := tb_at 857 (by decide +kernel) rfl
set_option maxRecDepth 20000 in
theorem wI_X7_isTooBusy : Cond.instanceMethod yX7_isTooBusy ∈ tbk := tb_at 859 (by decide +kernel) rfl
set_option maxRecDepth 20000 in
theorem wC_X7_isTooBusy : Cond.code yX7_isTooBusy cX7_isTooBusy 2 (some .boolean) ∈ tbk := tb_at 860 (by decide +kernel) rfl
set_option maxRecDepth 20000 in
theorem wM_X7_105 : Cond.methodLink RX7 105 yX7_endOf ∈ tbk := tb_at 861 (by decide +kernel) rfl
set_option maxRecDepth 20000 in
theorem wI_X7_endOf : Cond.instanceMethod yX7_endOf ∈ tbk := tb_at 863 (by decide +kernel) rfl
set_option maxRecDepth 20000 in
theorem wC_X7_endOf : Cond.code yX7_endOf cX7_endOf 4 (some .int) ∈ tbk := tb_at 864 (by decide +kernel) rfl
set_option maxRecDepth 20000 in
theorem wM_L_63 : Cond.methodLink RL 63 yX7_now ∈ tbk := tb_at 865 (by decide +kernel) rfl
set_option maxRecDepth 20000 in
theorem wI_X7_now : Cond.instanceMethod yX7_now ∈ tbk := tb_at 866 (by decide +kernel) rfl
set_option maxRecDepth 20000 in
theorem wS_X7_now : Cond.selects RX7 yX7_now yX7_now ∈ tbk := tb_at 867 (by decide +kernel) rfl
set_option maxRecDepth 20000 in
theorem wC_X7_now : Cond.code yX7_now cX7_now 1 (some .int) ∈ tbk := tb_at 868 (by decide +kernel) rfl
set_option maxRecDepth 20000 in
theorem wM_L_67 : Cond.methodLink RL 67 yX7_entryOf ∈ tbk := tb_at 869 (by decide +kernel) rfl
set_option maxRecDepth 20000 in
theorem wI_X7_entryOf : Cond.instanceMethod yX7_entryOf ∈ tbk := tb_at 870 (by decide +kernel) rfl
set_option maxRecDepth 20000 in
theorem wS_X7_entryOf : Cond.selects RX7 yX7_entryOf yX7_entryOf ∈ tbk := tb_at 871 (by decide +kernel) rfl
set_option maxRecDepth 20000 in
theorem wC_X7_entryOf : Cond.code yX7_entryOf cX7_entryOf 2 (some .int) ∈ tbk := tb_at 872 (by decide +kernel) rfl
set_option maxRecDepth 20000 in
theorem wM_L_71 : Cond.methodLink RL 71 yX7_isActive ∈ tbk := tb_at 873 (by decide +kernel) rfl
set_option maxRecDepth 20000 in
theorem wI_X7_isActive : Cond.instanceMethod yX7_isActive ∈ tbk := tb_at 874 (by decide +kernel) rfl
set_option maxRecDepth 20000 in
theorem wS_X7_isActive : Cond.selects RX7 yX7_isActive yX7_isActive ∈ tbk := tb_at 875 (by decide +kernel) rfl
set_option maxRecDepth 20000 in
theorem wC_X7_isActive : Cond.code yX7_isActive cX7_isActive 2 (some .int) ∈ tbk := tb_at 876 (by decide +kernel) rfl
set_option maxRecDepth 20000 in
theorem wM_X7_117 : Cond.methodLink RX7 117 yX7_isEntry ∈ tbk := tb_at 877 (by decide +kernel) rfl
set_option maxRecDepth 20000 in
theorem wI_X7_isEntry : Cond.instanceMethod yX7_isEntry ∈ tbk := tb_at 879 (by decide +kernel) rfl
set_option maxRecDepth 20000 in
theorem wC_X7_isEntry : Cond.code yX7_isEntry cX7_isEntry 2 (some .boolean) ∈ tbk := tb_at 880 (by decide +kernel) rfl
set_option maxRecDepth 20000 in
theorem wM_L_75 : Cond.methodLink RL 75 yX7_entryPath ∈ tbk := tb_at 881 (by decide +kernel) rfl
set_option maxRecDepth 20000 in
theorem wI_X7_entryPath : Cond.instanceMethod yX7_entryPath ∈ tbk := tb_at 882 (by decide +kernel) rfl
set_option maxRecDepth 20000 in
theorem wS_X7_entryPath : Cond.selects RX7 yX7_entryPath yX7_entryPath ∈ tbk := tb_at 883 (by decide +kernel) rfl
set_option maxRecDepth 20000 in
theorem wC_X7_entryPath : Cond.code yX7_entryPath cX7_entryPath 2 (some .int) ∈ tbk := tb_at 884 (by decide +kernel) rfl
set_option maxRecDepth 20000 in
theorem wM_L_79 : Cond.methodLink RL 79 yX7_ageBit ∈ tbk := tb_at 885 (by decide +kernel) rfl
set_option maxRecDepth 20000 in
theorem wI_X7_ageBit : Cond.instanceMethod yX7_ageBit ∈ tbk := tb_at 886 (by decide +kernel) rfl
set_option maxRecDepth 20000 in
theorem wS_X7_ageBit : Cond.selects RX7 yX7_ageBit yX7_ageBit ∈ tbk := tb_at 887 (by decide +kernel) rfl
set_option maxRecDepth 20000 in
theorem wC_X7_ageBit : Cond.code yX7_ageBit cX7_ageBit 2 (some .int) ∈ tbk := tb_at 888 (by decide +kernel) rfl
set_option maxRecDepth 20000 in
theorem wM_L_83 : Cond.methodLink RL 83 yX7_idleTime ∈ tbk := tb_at 889 (by decide +kernel) rfl
set_option maxRecDepth 20000 in
theorem wI_X7_idleTime : Cond.instanceMethod yX7_idleTime ∈ tbk := tb_at 890 (by decide +kernel) rfl
set_option maxRecDepth 20000 in
theorem wS_X7_idleTime : Cond.selects RX7 yX7_idleTime yX7_idleTime ∈ tbk := tb_at 891 (by decide +kernel) rfl
set_option maxRecDepth 20000 in
theorem wC_X7_idleTime : Cond.code yX7_idleTime cX7_idleTime 2 (some .int) ∈ tbk := tb_at 892 (by decide +kernel) rfl
set_option maxRecDepth 20000 in
theorem wM_L_87 : Cond.methodLink RL 87 yX7_activeEntries ∈ tbk := tb_at 893 (by decide +kernel) rfl
set_option maxRecDepth 20000 in
theorem wI_X7_activeEntries : Cond.instanceMethod yX7_activeEntries ∈ tbk := tb_at 894 (by decide +kernel) rfl
set_option maxRecDepth 20000 in
theorem wS_X7_activeEntries : Cond.selects RX7 yX7_activeEntries yX7_activeEntries ∈ tbk := tb_at 895 (by decide +kernel) rfl
set_option maxRecDepth 20000 in
theorem wC_X7_activeEntries : Cond.code yX7_activeEntries cX7_activeEntries 3 (some .int) ∈ tbk := tb_at 896 (by decide +kernel) rfl
set_option maxRecDepth 20000 in
theorem wM_L_91 : Cond.methodLink RL 91 yX7_load ∈ tbk := tb_at 897 (by decide +kernel) rfl
set_option maxRecDepth 20000 in
theorem wI_X7_load : Cond.instanceMethod yX7_load ∈ tbk := tb_at 898 (by decide +kernel) rfl
set_option maxRecDepth 20000 in
theorem wS_X7_load : Cond.selects RX7 yX7_load yX7_load ∈ tbk := tb_at 899 (by decide +kernel) rfl
set_option maxRecDepth 20000 in
theorem wC_X7_load : Cond.code yX7_load cX7_load 2 (some .int) ∈ tbk := tb_at 900 (by decide +kernel) rfl
set_option maxRecDepth 20000 in
theorem wM_X7_120 : Cond.methodLink RX7 120 yX7_ofPath ∈ tbk := tb_at 901 (by decide +kernel) rfl
set_option maxRecDepth 20000 in
theorem wI_X7_ofPath : Cond.instanceMethod yX7_ofPath ∈ tbk := tb_at 903 (by decide +kernel) rfl
set_option maxRecDepth 20000 in
theorem wC_X7_ofPath : Cond.code yX7_ofPath cX7_ofPath 3 (some .int) ∈ tbk := tb_at 904 (by decide +kernel) rfl
set_option maxRecDepth 20000 in
theorem wM_L_95 : Cond.methodLink RL 95 yX7_metric ∈ tbk := tb_at 905 (by decide +kernel) rfl
set_option maxRecDepth 20000 in
theorem wI_X7_metric : Cond.instanceMethod yX7_metric ∈ tbk := tb_at 906 (by decide +kernel) rfl
set_option maxRecDepth 20000 in
theorem wS_X7_metric : Cond.selects RX7 yX7_metric yX7_metric ∈ tbk := tb_at 907 (by decide +kernel) rfl
set_option maxRecDepth 20000 in
theorem wC_X7_metric : Cond.code yX7_metric cX7_metric 2 (some .int) ∈ tbk := tb_at 908 (by decide +kernel) rfl
set_option maxRecDepth 20000 in
theorem wM_L_99 : Cond.methodLink RL 99 yX7_busyTime ∈ tbk := tb_at 909 (by decide +kernel) rfl
set_option maxRecDepth 20000 in
theorem wI_X7_busyTime : Cond.instanceMethod yX7_busyTime ∈ tbk := tb_at 910 (by decide +kernel) rfl
set_option maxRecDepth 20000 in
theorem wS_X7_busyTime : Cond.selects RX7 yX7_busyTime yX7_busyTime ∈ tbk := tb_at 911 (by decide +kernel) rfl
set_option maxRecDepth 20000 in
theorem wC_X7_busyTime : Cond.code yX7_busyTime cX7_busyTime 3 (some .int) ∈ tbk := tb_at 912 (by decide +kernel) rfl
set_option maxRecDepth 20000 in
theorem wM_L_103 : Cond.methodLink RL 103 yX7_latency ∈ tbk := tb_at 913 (by decide +kernel) rfl
set_option maxRecDepth 20000 in
theorem wI_X7_latency : Cond.instanceMethod yX7_latency ∈ tbk := tb_at 914 (by decide +kernel) rfl
set_option maxRecDepth 20000 in
theorem wS_X7_latency : Cond.selects RX7 yX7_latency yX7_latency ∈ tbk := tb_at 915 (by decide +kernel) rfl
set_option maxRecDepth 20000 in
theorem wC_X7_latency : Cond.code yX7_latency cX7_latency 3 (some .int) ∈ tbk := tb_at 916 (by decide +kernel) rfl
set_option maxRecDepth 20000 in
theorem wM_X7_123 : Cond.methodLink RX7 123 yX7_latencyOf ∈ tbk := tb_at 917 (by decide +kernel) rfl
set_option maxRecDepth 20000 in
theorem wI_X7_latencyOf : Cond.instanceMethod yX7_latencyOf ∈ tbk := tb_at 919 (by decide +kernel) rfl
set_option maxRecDepth 20000 in
theorem wC_X7_latencyOf : Cond.code yX7_latencyOf cX7_latencyOf 3 (some .int) ∈ tbk := tb_at 920 (by decide +kernel) rfl
set_option maxRecDepth 20000 in
theorem wM_L_107 : Cond.methodLink RL 107 yX7_safeGap ∈ tbk := tb_at 921 (by decide +kernel) rfl
set_option maxRecDepth 20000 in
theorem wI_X7_safeGap : Cond.instanceMethod yX7_safeGap ∈ tbk := tb_at 922 (by decide +kernel) rfl
set_option maxRecDepth 20000 in
theorem wS_X7_safeGap : Cond.selects RX7 yX7_safeGap yX7_safeGap ∈ tbk := tb_at 923 (by decide +kernel) rfl
set_option maxRecDepth 20000 in
theorem wC_X7_safeGap : Cond.code yX7_safeGap cX7_safeGap 6 (some .int) ∈ tbk := tb_at 924 (by decide +kernel) rfl
set_option maxRecDepth 20000 in
theorem wM_L_111 : Cond.methodLink RL 111 yX7_packets ∈ tbk := tb_at 925 (by decide +kernel) rfl
set_option maxRecDepth 20000 in
theorem wI_X7_packets : Cond.instanceMethod yX7_packets ∈ tbk := tb_at 926 (by decide +kernel) rfl
set_option maxRecDepth 20000 in
theorem wS_X7_packets : Cond.selects RX7 yX7_packets yX7_packets ∈ tbk := tb_at 927 (by decide +kernel) rfl
set_option maxRecDepth 20000 in
theorem wC_X7_packets : Cond.code yX7_packets cX7_packets 2 (some .int) ∈ tbk := tb_at 928 (by decide +kernel) rfl
set_option maxRecDepth 20000 in
theorem wM_L_115 : Cond.methodLink RL 115 yX7_bytes ∈ tbk := tb_at 929 (by decide +kernel) rfl
set_option maxRecDepth 20000 in
theorem wI_X7_bytes : Cond.instanceMethod yX7_bytes ∈ tbk := tb_at 930 (by decide +kernel) rfl
set_option maxRecDepth 20000 in
theorem wS_X7_bytes : Cond.selects RX7 yX7_bytes yX7_bytes ∈ tbk := tb_at 931 (by decide +kernel) rfl
set_option maxRecDepth 20000 in
theorem wC_X7_bytes : Cond.code yX7_bytes cX7_bytes 2 (some .int) ∈ tbk := tb_at 932 (by decide +kernel) rfl
set_option maxRecDepth 20000 in
theorem wM_L_119 : Cond.methodLink RL 119 yX7_drops ∈ tbk := tb_at 933 (by decide +kernel) rfl
set_option maxRecDepth 20000 in
theorem wI_X7_drops : Cond.instanceMethod yX7_drops ∈ tbk := tb_at 934 (by decide +kernel) rfl
set_option maxRecDepth 20000 in
theorem wS_X7_drops : Cond.selects RX7 yX7_drops yX7_drops ∈ tbk := tb_at 935 (by decide +kernel) rfl
set_option maxRecDepth 20000 in
theorem wC_X7_drops : Cond.code yX7_drops cX7_drops 2 (some .int) ∈ tbk := tb_at 936 (by decide +kernel) rfl
set_option maxRecDepth 20000 in
theorem wM_L_123 : Cond.methodLink RL 123 yX7_imbalance ∈ tbk := tb_at 937 (by decide +kernel) rfl
set_option maxRecDepth 20000 in
theorem wI_X7_imbalance : Cond.instanceMethod yX7_imbalance ∈ tbk := tb_at 938 (by decide +kernel) rfl
set_option maxRecDepth 20000 in
theorem wS_X7_imbalance : Cond.selects RX7 yX7_imbalance yX7_imbalance ∈ tbk := tb_at 939 (by decide +kernel) rfl
set_option maxRecDepth 20000 in
theorem wC_X7_imbalance : Cond.code yX7_imbalance cX7_imbalance 5 (some .int) ∈ tbk := tb_at 940 (by decide +kernel) rfl
set_option maxRecDepth 20000 in
theorem wM_L_127 : Cond.methodLink RL 127 yX7_nextPath ∈ tbk := tb_at 941 (by decide +kernel) rfl
set_option maxRecDepth 20000 in
theorem wI_X7_nextPath : Cond.instanceMethod yX7_nextPath ∈ tbk := tb_at 942 (by decide +kernel) rfl
set_option maxRecDepth 20000 in
theorem wS_X7_nextPath : Cond.selects RX7 yX7_nextPath yX7_nextPath ∈ tbk := tb_at 943 (by decide +kernel) rfl
set_option maxRecDepth 20000 in
theorem wC_X7_nextPath : Cond.code yX7_nextPath cX7_nextPath 2 (some .int) ∈ tbk := tb_at 944 (by decide +kernel) rfl
set_option maxRecDepth 20000 in
theorem wM_L_131 : Cond.methodLink RL 131 yX7_wouldReorder ∈ tbk := tb_at 945 (by decide +kernel) rfl
set_option maxRecDepth 20000 in
theorem wI_X7_wouldReorder : Cond.instanceMethod yX7_wouldReorder ∈ tbk := tb_at 946 (by decide +kernel) rfl
set_option maxRecDepth 20000 in
theorem wS_X7_wouldReorder : Cond.selects RX7 yX7_wouldReorder yX7_wouldReorder ∈ tbk := tb_at 947 (by decide +kernel) rfl
set_option maxRecDepth 20000 in
theorem wC_X7_wouldReorder : Cond.code yX7_wouldReorder cX7_wouldReorder 5 (some .int) ∈ tbk := tb_at 948 (by decide +kernel) rfl
set_option maxRecDepth 20000 in
theorem wM_L_135 : Cond.methodLink RL 135 yX7_flowlets ∈ tbk := tb_at 949 (by decide +kernel) rfl
set_option maxRecDepth 20000 in
theorem wI_X7_flowlets : Cond.instanceMethod yX7_flowlets ∈ tbk := tb_at 950 (by decide +kernel) rfl
set_option maxRecDepth 20000 in
theorem wS_X7_flowlets : Cond.selects RX7 yX7_flowlets yX7_flowlets ∈ tbk := tb_at 951 (by decide +kernel) rfl
set_option maxRecDepth 20000 in
theorem wC_X7_flowlets : Cond.code yX7_flowlets cX7_flowlets 2 (some .int) ∈ tbk := tb_at 952 (by decide +kernel) rfl
set_option maxRecDepth 20000 in
theorem wM_X7_126 : Cond.methodLink RX7 126 yX7_ofFlow ∈ tbk := tb_at 953 (by decide +kernel) rfl
set_option maxRecDepth 20000 in
theorem wI_X7_ofFlow : Cond.instanceMethod yX7_ofFlow ∈ tbk := tb_at 955 (by decide +kernel) rfl
set_option maxRecDepth 20000 in
theorem wC_X7_ofFlow : Cond.code yX7_ofFlow cX7_ofFlow 3 (some .int) ∈ tbk := tb_at 956 (by decide +kernel) rfl
set_option maxRecDepth 20000 in
theorem wM_L_139 : Cond.methodLink RL 139 yX7_pathChanges ∈ tbk := tb_at 957 (by decide +kernel) rfl
set_option maxRecDepth 20000 in
theorem wI_X7_pathChanges : Cond.instanceMethod yX7_pathChanges ∈ tbk := tb_at 958 (by decide +kernel) rfl
set_option maxRecDepth 20000 in
theorem wS_X7_pathChanges : Cond.selects RX7 yX7_pathChanges yX7_pathChanges ∈ tbk := tb_at 959 (by decide +kernel) rfl
set_option maxRecDepth 20000 in
theorem wC_X7_pathChanges : Cond.code yX7_pathChanges cX7_pathChanges 2 (some .int) ∈ tbk := tb_at 960 (by decide +kernel) rfl
set_option maxRecDepth 20000 in
theorem wM_L_143 : Cond.methodLink RL 143 yX7_reordered ∈ tbk := tb_at 961 (by decide +kernel) rfl
set_option maxRecDepth 20000 in
theorem wI_X7_reordered : Cond.instanceMethod yX7_reordered ∈ tbk := tb_at 962 (by decide +kernel) rfl
set_option maxRecDepth 20000 in
theorem wS_X7_reordered : Cond.selects RX7 yX7_reordered yX7_reordered ∈ tbk := tb_at 963 (by decide +kernel) rfl
set_option maxRecDepth 20000 in
theorem wC_X7_reordered : Cond.code yX7_reordered cX7_reordered 2 (some .int) ∈ tbk := tb_at 964 (by decide +kernel) rfl
set_option maxRecDepth 20000 in
theorem wM_L_147 : Cond.methodLink RL 147 yX7_lastArrival ∈ tbk := tb_at 965 (by decide +kernel) rfl
set_option maxRecDepth 20000 in
theorem wI_X7_lastArrival : Cond.instanceMethod yX7_lastArrival ∈ tbk := tb_at 966 (by decide +kernel) rfl
set_option maxRecDepth 20000 in
theorem wS_X7_lastArrival : Cond.selects RX7 yX7_lastArrival yX7_lastArrival ∈ tbk := tb_at 967 (by decide +kernel) rfl
set_option maxRecDepth 20000 in
theorem wC_X7_lastArrival : Cond.code yX7_lastArrival cX7_lastArrival 2 (some .int) ∈ tbk := tb_at 968 (by decide +kernel) rfl
set_option maxRecDepth 20000 in
theorem wM_L_151 : Cond.methodLink RL 151 yX7_appendCharacter ∈ tbk := tb_at 969 (by decide +kernel) rfl
set_option maxRecDepth 20000 in
theorem wI_X7_appendCharacter : Cond.instanceMethod yX7_appendCharacter ∈ tbk := tb_at 970 (by decide +kernel) rfl
set_option maxRecDepth 20000 in
theorem wS_X7_appendCharacter : Cond.selects RX7 yX7_appendCharacter yX7_appendCharacter ∈ tbk := tb_at 971 (by decide +kernel) rfl
set_option maxRecDepth 20000 in
theorem wC_X7_appendCharacter : Cond.code yX7_appendCharacter cX7_appendCharacter 2 (some .int) ∈ tbk := tb_at 972 (by decide +kernel) rfl
set_option maxRecDepth 20000 in
theorem wM_L_155 : Cond.methodLink RL 155 yX7_clearText ∈ tbk := tb_at 973 (by decide +kernel) rfl
set_option maxRecDepth 20000 in
theorem wI_X7_clearText : Cond.instanceMethod yX7_clearText ∈ tbk := tb_at 974 (by decide +kernel) rfl
set_option maxRecDepth 20000 in
theorem wS_X7_clearText : Cond.selects RX7 yX7_clearText yX7_clearText ∈ tbk := tb_at 975 (by decide +kernel) rfl
set_option maxRecDepth 20000 in
theorem wC_X7_clearText : Cond.code yX7_clearText cX7_clearText 2 (some .int) ∈ tbk := tb_at 976 (by decide +kernel) rfl
set_option maxRecDepth 20000 in
theorem wM_L_159 : Cond.methodLink RL 159 yX7_runTrace ∈ tbk := tb_at 977 (by decide +kernel) rfl
set_option maxRecDepth 20000 in
theorem wI_X7_runTrace : Cond.instanceMethod yX7_runTrace ∈ tbk := tb_at 978 (by decide +kernel) rfl
set_option maxRecDepth 20000 in
theorem wS_X7_runTrace : Cond.selects RX7 yX7_runTrace yX7_runTrace ∈ tbk := tb_at 979 (by decide +kernel) rfl
set_option maxRecDepth 20000 in
theorem wC_X7_runTrace : Cond.code yX7_runTrace cX7_runTrace 3 (some .int) ∈ tbk := tb_at 980 (by decide +kernel) rfl
set_option maxRecDepth 20000 in
theorem wM_X7_150 : Cond.methodLink RX7 150 yX7_readText ∈ tbk := tb_at 981 (by decide +kernel) rfl
set_option maxRecDepth 20000 in
theorem wI_X7_readText : Cond.instanceMethod yX7_readText ∈ tbk := tb_at 983 (by decide +kernel) rfl
set_option maxRecDepth 20000 in
theorem wC_X7_readText : Cond.code yX7_readText cX7_readText 2 (some .boolean) ∈ tbk := tb_at 984 (by decide +kernel) rfl
set_option maxRecDepth 20000 in
theorem wM_X7_147 : Cond.methodLink RX7 147 yX7_readItem ∈ tbk := tb_at 985 (by decide +kernel) rfl
set_option maxRecDepth 20000 in
theorem wI_X7_readItem : Cond.instanceMethod yX7_readItem ∈ tbk := tb_at 987 (by decide +kernel) rfl
set_option maxRecDepth 20000 in
theorem wC_X7_readItem : Cond.code yX7_readItem cX7_readItem 3 (some .boolean) ∈ tbk := tb_at 988 (by decide +kernel) rfl
set_option maxRecDepth 20000 in
theorem wM_X7_138 : Cond.methodLink RX7 138 yX7_reads ∈ tbk := tb_at 989 (by decide +kernel) rfl
set_option maxRecDepth 20000 in
theorem wI_X7_reads : Cond.instanceMethod yX7_reads ∈ tbk := tb_at 991 (by decide +kernel) rfl
set_option maxRecDepth 20000 in
theorem wC_X7_reads : Cond.code yX7_reads cX7_reads 3 (some .boolean) ∈ tbk := tb_at 992 (by decide +kernel) rfl
set_option maxRecDepth 20000 in
theorem wM_X7_135 : Cond.methodLink RX7 135 yX7_sign ∈ tbk := tb_at 993 (by decide +kernel) rfl
set_option maxRecDepth 20000 in
theorem wI_X7_sign : Cond.instanceMethod yX7_sign ∈ tbk := tb_at 995 (by decide +kernel) rfl
set_option maxRecDepth 20000 in
theorem wC_X7_sign : Cond.code yX7_sign cX7_sign 1 (some .int) ∈ tbk := tb_at 996 (by decide +kernel) rfl
set_option maxRecDepth 20000 in
theorem wM_X7_141 : Cond.methodLink RX7 141 yX7_number ∈ tbk := tb_at 997 (by decide +kernel) rfl
set_option maxRecDepth 20000 in
theorem wI_X7_number : Cond.instanceMethod yX7_number ∈ tbk := tb_at 999 (by decide +kernel) rfl
set_option maxRecDepth 20000 in
theorem wC_X7_number : Cond.code yX7_number cX7_number 3 (some .int) ∈ tbk := tb_at 1000 (by decide +kernel) rfl
set_option maxRecDepth 20000 in
theorem wM_X7_153 : Cond.methodLink RX7 153 yX7_execute ∈ tbk := tb_at 1001 (by decide +kernel) rfl
set_option maxRecDepth 20000 in
theorem wI_X7_execute : Cond.instanceMethod yX7_execute ∈ tbk := tb_at 1003 (by decide +kernel) rfl
set_option maxRecDepth 20000 in
theorem wC_X7_execute : Cond.code yX7_execute cX7_execute 5 (some .boolean) ∈ tbk := tb_at 1004 (by decide +kernel) rfl
set_option maxRecDepth 20000 in
theorem wM_L_163 : Cond.methodLink RL 163 yX7_undo ∈ tbk := tb_at 1005 (by decide +kernel) rfl
set_option maxRecDepth 20000 in
theorem wI_X7_undo : Cond.instanceMethod yX7_undo ∈ tbk := tb_at 1006 (by decide +kernel) rfl
set_option maxRecDepth 20000 in
theorem wS_X7_undo : Cond.selects RX7 yX7_undo yX7_undo ∈ tbk := tb_at 1007 (by decide +kernel) rfl
set_option maxRecDepth 20000 in
theorem wC_X7_undo : Cond.code yX7_undo cX7_undo 2 (some .int) ∈ tbk := tb_at 1008 (by decide +kernel) rfl
set_option maxRecDepth 20000 in
theorem wM_L_167 : Cond.methodLink RL 167 yX7_save ∈ tbk := tb_at 1009 (by decide +kernel) rfl
set_option maxRecDepth 20000 in
theorem wI_X7_save : Cond.instanceMethod yX7_save ∈ tbk := tb_at 1010 (by decide +kernel) rfl
set_option maxRecDepth 20000 in
theorem wS_X7_save : Cond.selects RX7 yX7_save yX7_save ∈ tbk := tb_at 1011 (by decide +kernel) rfl
set_option maxRecDepth 20000 in
theorem wC_X7_save : Cond.code yX7_save cX7_save 3 (some .int) ∈ tbk := tb_at 1012 (by decide +kernel) rfl
set_option maxRecDepth 20000 in
theorem wM_L_171 : Cond.methodLink RL 171 yX7_restore ∈ tbk := tb_at 1013 (by decide +kernel) rfl
set_option maxRecDepth 20000 in
theorem wI_X7_restore : Cond.instanceMethod yX7_restore ∈ tbk := tb_at 1014 (by decide +kernel) rfl
set_option maxRecDepth 20000 in
theorem wS_X7_restore : Cond.selects RX7 yX7_restore yX7_restore ∈ tbk := tb_at 1015 (by decide +kernel) rfl
set_option maxRecDepth 20000 in
theorem wC_X7_restore : Cond.code yX7_restore cX7_restore 3 (some .int) ∈ tbk := tb_at 1016 (by decide +kernel) rfl
/-- what the tables say of a method that is called: by its object, statically, as a constructor -/
def MWv (y : MethodName) (cc : ByteArray) (maxL : Nat) (ret : Option FieldType) (n : Nat) : Prop := Cond.instanceMethod y ∈ tbk ∧ Cond.selects y.cls y y ∈ tbk ∧ Cond.initialized y.cls ∈ tbk ∧ Cond.code y cc maxL ret ∈ tbk ∧ y.cls ≠ "java/lang/invoke/MethodHandle" ∧ y.cls ≠ "java/lang/invoke/VarHandle" ∧ (parseMethodDescriptor y.desc).map (fun d => d.parameters.length) = some n
def MWs (y : MethodName) (cc : ByteArray) (maxL : Nat) (ret : Option FieldType) (n : Nat) : Prop := Cond.static y ∈ tbk ∧ Cond.initialized y.cls ∈ tbk ∧ Cond.code y cc maxL ret ∈ tbk ∧ y.cls ≠ "java/lang/invoke/MethodHandle" ∧ y.cls ≠ "java/lang/invoke/VarHandle" ∧ (parseMethodDescriptor y.desc).map (fun d => d.parameters.length) = some n
def MWi (y : MethodName) (cc : ByteArray) (maxL : Nat) (n : Nat) : Prop := Cond.instanceMethod y ∈ tbk ∧ Cond.initialized y.cls ∈ tbk ∧ Cond.code y cc maxL none ∈ tbk ∧ y.name = "<init>" ∧ y.cls ≠ "java/lang/invoke/MethodHandle" ∧ y.cls ≠ "java/lang/invoke/VarHandle" ∧ (parseMethodDescriptor y.desc).map (fun d => d.parameters.length) = some n
theorem mw_X6_runItem : MWv yX6_runItem cX6_runItem 2 (some .boolean) 0 := ⟨wI_X6_runItem, wS_X6_runItem, wN_X6, wC_X6_runItem, by decide +kernel, by decide +kernel, by decide +kernel⟩
theorem mw_X7_makeNew : MWv yX7_makeNew cX7_makeNew 4 none 2 := ⟨wI_X7_makeNew, wS_X7_makeNew, wN_X7, wC_X7_makeNew, by decide +kernel, by decide +kernel, by decide +kernel⟩
theorem mw_X7_keep : MWv yX7_keep cX7_keep 2 none 0 := ⟨wI_X7_keep, wS_X7_keep, wN_X7, wC_X7_keep, by decide +kernel, by decide +kernel, by decide +kernel⟩
theorem mw_X7_slotOf : MWv yX7_slotOf cX7_slotOf 2 (some .int) 1 := ⟨wI_X7_slotOf, wS_X7_slotOf, wN_X7, wC_X7_slotOf, by decide +kernel, by decide +kernel, by decide +kernel⟩
theorem mw_X7_isPath : MWv yX7_isPath cX7_isPath 2 (some .boolean) 1 := ⟨wI_X7_isPath, wS_X7_isPath, wN_X7, wC_X7_isPath, by decide +kernel, by decide +kernel, by decide +kernel⟩
theorem mw_X7_change : MWv yX7_change cX7_change 4 (some .int) 2 := ⟨wI_X7_change, wS_X7_change, wN_X7, wC_X7_change, by decide +kernel, by decide +kernel, by decide +kernel⟩
theorem mw_X7_whyNotPass : MWv yX7_whyNotPass cX7_whyNotPass 2 (some .int) 1 := ⟨wI_X7_whyNotPass, wS_X7_whyNotPass, wN_X7, wC_X7_whyNotPass, by decide +kernel, by decide +kernel, by decide +kernel⟩
theorem mw_X7_pass : MWv yX7_pass cX7_pass 3 (some .int) 1 := ⟨wI_X7_pass, wS_X7_pass, wN_X7, wC_X7_pass, by decide +kernel, by decide +kernel, by decide +kernel⟩
theorem mw_X7_tick : MWv yX7_tick cX7_tick 2 none 0 := ⟨wI_X7_tick, wS_X7_tick, wN_X7, wC_X7_tick, by decide +kernel, by decide +kernel, by decide +kernel⟩
theorem mw_X7_age : MWv yX7_age cX7_age 2 none 0 := ⟨wI_X7_age, wS_X7_age, wN_X7, wC_X7_age, by decide +kernel, by decide +kernel, by decide +kernel⟩
theorem mw_X7_transmit : MWv yX7_transmit cX7_transmit 6 (some .int) 2 := ⟨wI_X7_transmit, wS_X7_transmit, wN_X7, wC_X7_transmit, by decide +kernel, by decide +kernel, by decide +kernel⟩
theorem mw_X7_choose : MWv yX7_choose cX7_choose 3 (some .int) 1 := ⟨wI_X7_choose, wS_X7_choose, wN_X7, wC_X7_choose, by decide +kernel, by decide +kernel, by decide +kernel⟩
theorem mw_X7_isLive : MWv yX7_isLive cX7_isLive 3 (some .boolean) 1 := ⟨wI_X7_isLive, wS_X7_isLive, wN_X7, wC_X7_isLive, by decide +kernel, by decide +kernel, by decide +kernel⟩
theorem mw_X7_leastLoaded : MWv yX7_leastLoaded cX7_leastLoaded 4 (some .int) 1 := ⟨wI_X7_leastLoaded, wS_X7_leastLoaded, wN_X7, wC_X7_leastLoaded, by decide +kernel, by decide +kernel, by decide +kernel⟩
theorem mw_X7_metricOf : MWv yX7_metricOf cX7_metricOf 3 (some .int) 1 := ⟨wI_X7_metricOf, wS_X7_metricOf, wN_X7, wC_X7_metricOf, by decide +kernel, by decide +kernel, by decide +kernel⟩
theorem mw_X7_nextGenerator : MWv yX7_nextGenerator cX7_nextGenerator 1 (some .int) 0 := ⟨wI_X7_nextGenerator, wS_X7_nextGenerator, wN_X7, wC_X7_nextGenerator, by decide +kernel, by decide +kernel, by decide +kernel⟩
theorem mw_X7_take : MWv yX7_take cX7_take 4 none 2 := ⟨wI_X7_take, wS_X7_take, wN_X7, wC_X7_take, by decide +kernel, by decide +kernel, by decide +kernel⟩
theorem mw_X7_isByFlowlets : MWv yX7_isByFlowlets cX7_isByFlowlets 1 (some .boolean) 0 := ⟨wI_X7_isByFlowlets, wS_X7_isByFlowlets, wN_X7, wC_X7_isByFlowlets, by decide +kernel, by decide +kernel, by decide +kernel⟩
theorem mw_X7_isTooBusy : MWv yX7_isTooBusy cX7_isTooBusy 2 (some .boolean) 1 := ⟨wI_X7_isTooBusy, wS_X7_isTooBusy, wN_X7, wC_X7_isTooBusy, by decide +kernel, by decide +kernel, by decide +kernel⟩
theorem mw_X7_endOf : MWv yX7_endOf cX7_endOf 4 (some .int) 2 := ⟨wI_X7_endOf, wS_X7_endOf, wN_X7, wC_X7_endOf, by decide +kernel, by decide +kernel, by decide +kernel⟩
theorem mw_X7_isEntry : MWv yX7_isEntry cX7_isEntry 2 (some .boolean) 1 := ⟨wI_X7_isEntry, wS_X7_isEntry, wN_X7, wC_X7_isEntry, by decide +kernel, by decide +kernel, by decide +kernel⟩
theorem mw_X7_ofPath : MWv yX7_ofPath cX7_ofPath 3 (some .int) 2 := ⟨wI_X7_ofPath, wS_X7_ofPath, wN_X7, wC_X7_ofPath, by decide +kernel, by decide +kernel, by decide +kernel⟩
theorem mw_X7_latencyOf : MWv yX7_latencyOf cX7_latencyOf 3 (some .int) 2 := ⟨wI_X7_latencyOf, wS_X7_latencyOf, wN_X7, wC_X7_latencyOf, by decide +kernel, by decide +kernel, by decide +kernel⟩
theorem mw_X7_ofFlow : MWv yX7_ofFlow cX7_ofFlow 3 (some .int) 2 := ⟨wI_X7_ofFlow, wS_X7_ofFlow, wN_X7, wC_X7_ofFlow, by decide +kernel, by decide +kernel, by decide +kernel⟩
theorem mw_X7_readText : MWv yX7_readText cX7_readText 2 (some .boolean) 0 := ⟨wI_X7_readText, wS_X7_readText, wN_X7, wC_X7_readText, by decide +kernel, by decide +kernel, by decide +kernel⟩
theorem mw_X7_readItem : MWv yX7_readItem cX7_readItem 3 (some .boolean) 0 := ⟨wI_X7_readItem, wS_X7_readItem, wN_X7, wC_X7_readItem, by decide +kernel, by decide +kernel, by decide +kernel⟩
theorem mw_X7_reads : MWv yX7_reads cX7_reads 3 (some .boolean) 1 := ⟨wI_X7_reads, wS_X7_reads, wN_X7, wC_X7_reads, by decide +kernel, by decide +kernel, by decide +kernel⟩
theorem mw_X7_sign : MWv yX7_sign cX7_sign 1 (some .int) 0 := ⟨wI_X7_sign, wS_X7_sign, wN_X7, wC_X7_sign, by decide +kernel, by decide +kernel, by decide +kernel⟩
theorem mw_X7_number : MWv yX7_number cX7_number 3 (some .int) 0 := ⟨wI_X7_number, wS_X7_number, wN_X7, wC_X7_number, by decide +kernel, by decide +kernel, by decide +kernel⟩
theorem mw_X7_execute : MWv yX7_execute cX7_execute 5 (some .boolean) 1 := ⟨wI_X7_execute, wS_X7_execute, wN_X7, wC_X7_execute, by decide +kernel, by decide +kernel, by decide +kernel⟩
theorem mw_X6_init : MWi yX6_init cX6_init 2 0 := ⟨wI_X6_init, wN_X6, wC_X6_init, rfl, by decide +kernel, by decide +kernel, by decide +kernel⟩
theorem mw_X4_init : MWi yX4_init cX4_init 2 0 := ⟨wI_X4_init, wN_X4, wC_X4_init, rfl, by decide +kernel, by decide +kernel, by decide +kernel⟩
theorem mw_X2_init : MWi yX2_init cX2_init 1 0 := ⟨wI_X2_init, wN_X2, wC_X2_init, rfl, by decide +kernel, by decide +kernel, by decide +kernel⟩
theorem mw_X0_init : MWi yX0_init cX0_init 1 0 := ⟨wI_X0_init, wN_X0, wC_X0_init, rfl, by decide +kernel, by decide +kernel, by decide +kernel⟩
theorem mw_X1_init : MWi yX1_init cX1_init 1 0 := ⟨wI_X1_init, wN_X1, wC_X1_init, rfl, by decide +kernel, by decide +kernel, by decide +kernel⟩
theorem mw_X4_reset : MWv yX4_reset cX4_reset 4 none 2 := ⟨wI_X4_reset, wS_X4_reset, wN_X4, wC_X4_reset, by decide +kernel, by decide +kernel, by decide +kernel⟩
theorem mw_X2_reset : MWv yX2_reset cX2_reset 1 none 0 := ⟨wI_X2_reset, wS_X2_reset, wN_X2, wC_X2_reset, by decide +kernel, by decide +kernel, by decide +kernel⟩
theorem mw_X0_reset : MWv yX0_reset cX0_reset 1 none 0 := ⟨wI_X0_reset, wS_X0_reset, wN_X0, wC_X0_reset, by decide +kernel, by decide +kernel, by decide +kernel⟩
theorem mw_X1_reset : MWv yX1_reset cX1_reset 1 none 0 := ⟨wI_X1_reset, wS_X1_reset, wN_X1, wC_X1_reset, by decide +kernel, by decide +kernel, by decide +kernel⟩
theorem mw_X3_init : MWi yX3_init cX3_init 2 0 := ⟨wI_X3_init, wN_X3, wC_X3_init, rfl, by decide +kernel, by decide +kernel, by decide +kernel⟩
theorem mw_X5_init : MWi yX5_init cX5_init 1 0 := ⟨wI_X5_init, wN_X5, wC_X5_init, rfl, by decide +kernel, by decide +kernel, by decide +kernel⟩
theorem mw_X6_configure : MWv yX6_configure cX6_configure 3 (some .int) 2 := ⟨wI_X6_configure, wS_X6_configure, wN_X6, wC_X6_configure, by decide +kernel, by decide +kernel, by decide +kernel⟩
theorem mw_X6_isBetween : MWs yX6_isBetween cX6_isBetween 3 (some .boolean) 3 := ⟨wT_X6_isBetween, wN_X6, wC_X6_isBetween, by decide +kernel, by decide +kernel, by decide +kernel⟩
theorem mw_X3_push : MWv yX3_push cX3_push 2 none 1 := ⟨wI_X3_push, wS_X3_push, wN_X3, wC_X3_push, by decide +kernel, by decide +kernel, by decide +kernel⟩
theorem mw_X4_copyFrom : MWv yX4_copyFrom cX4_copyFrom 3 none 1 := ⟨wI_X4_copyFrom, wS_X4_copyFrom, wN_X4, wC_X4_copyFrom, by decide +kernel, by decide +kernel, by decide +kernel⟩
theorem mw_X2_copyFrom : MWv yX2_copyFrom cX2_copyFrom 2 none 1 := ⟨wI_X2_copyFrom, wS_X2_copyFrom, wN_X2, wC_X2_copyFrom, by decide +kernel, by decide +kernel, by decide +kernel⟩
theorem mw_X0_copyFrom : MWv yX0_copyFrom cX0_copyFrom 2 none 1 := ⟨wI_X0_copyFrom, wS_X0_copyFrom, wN_X0, wC_X0_copyFrom, by decide +kernel, by decide +kernel, by decide +kernel⟩
theorem mw_X1_copyFrom : MWv yX1_copyFrom cX1_copyFrom 2 none 1 := ⟨wI_X1_copyFrom, wS_X1_copyFrom, wN_X1, wC_X1_copyFrom, by decide +kernel, by decide +kernel, by decide +kernel⟩
theorem mw_J9_min_7cf53 : MWs yJ9_min_7cf53 cJ9_min_7cf53 2 (some .int) 2 := ⟨wT_J9_min_7cf53, wN_J9, wC_J9_min_7cf53, by decide +kernel, by decide +kernel, by decide +kernel⟩
theorem mw_X4_countFlowsOfEntry : MWv yX4_countFlowsOfEntry cX4_countFlowsOfEntry 4 (some .int) 1 := ⟨wI_X4_countFlowsOfEntry, wS_X4_countFlowsOfEntry, wN_X4, wC_X4_countFlowsOfEntry, by decide +kernel, by decide +kernel, by decide +kernel⟩
theorem mw_X4_entryNumber : MWv yX4_entryNumber cX4_entryNumber 2 (some .int) 1 := ⟨wI_X4_entryNumber, wS_X4_entryNumber, wN_X4, wC_X4_entryNumber, by decide +kernel, by decide +kernel, by decide +kernel⟩
theorem mw_X6_remainder : MWs yX6_remainder cX6_remainder 2 (some .int) 2 := ⟨wT_X6_remainder, wN_X6, wC_X6_remainder, by decide +kernel, by decide +kernel, by decide +kernel⟩
theorem mw_X6_setDelay : MWv yX6_setDelay cX6_setDelay 4 (some .int) 2 := ⟨wI_X6_setDelay, wS_X6_setDelay, wN_X6, wC_X6_setDelay, by decide +kernel, by decide +kernel, by decide +kernel⟩
theorem mw_X4_hasPath : MWv yX4_hasPath cX4_hasPath 2 (some .boolean) 1 := ⟨wI_X4_hasPath, wS_X4_hasPath, wN_X4, wC_X4_hasPath, by decide +kernel, by decide +kernel, by decide +kernel⟩
theorem mw_X6_setRate : MWv yX6_setRate cX6_setRate 4 (some .int) 2 := ⟨wI_X6_setRate, wS_X6_setRate, wN_X6, wC_X6_setRate, by decide +kernel, by decide +kernel, by decide +kernel⟩
theorem mw_X6_setRemoteLevel : MWv yX6_setRemoteLevel cX6_setRemoteLevel 4 (some .int) 2 := ⟨wI_X6_setRemoteLevel, wS_X6_setRemoteLevel, wN_X6, wC_X6_setRemoteLevel, by decide +kernel, by decide +kernel, by decide +kernel⟩
theorem mw_X6_setMode : MWv yX6_setMode cX6_setMode 3 (some .int) 1 := ⟨wI_X6_setMode, wS_X6_setMode, wN_X6, wC_X6_setMode, by decide +kernel, by decide +kernel, by decide +kernel⟩
theorem mw_X6_setDetection : MWv yX6_setDetection cX6_setDetection 3 (some .int) 1 := ⟨wI_X6_setDetection, wS_X6_setDetection, wN_X6, wC_X6_setDetection, by decide +kernel, by decide +kernel, by decide +kernel⟩
theorem mw_X6_setGap : MWv yX6_setGap cX6_setGap 3 (some .int) 1 := ⟨wI_X6_setGap, wS_X6_setGap, wN_X6, wC_X6_setGap, by decide +kernel, by decide +kernel, by decide +kernel⟩
theorem mw_X6_setShift : MWv yX6_setShift cX6_setShift 3 (some .int) 1 := ⟨wI_X6_setShift, wS_X6_setShift, wN_X6, wC_X6_setShift, by decide +kernel, by decide +kernel, by decide +kernel⟩
theorem mw_X6_setGenerator : MWv yX6_setGenerator cX6_setGenerator 3 (some .int) 1 := ⟨wI_X6_setGenerator, wS_X6_setGenerator, wN_X6, wC_X6_setGenerator, by decide +kernel, by decide +kernel, by decide +kernel⟩
theorem mw_X6_advance : MWv yX6_advance cX6_advance 2 (some .int) 1 := ⟨wI_X6_advance, wS_X6_advance, wN_X6, wC_X6_advance, by decide +kernel, by decide +kernel, by decide +kernel⟩
theorem mw_X4_hasTimeFor : MWv yX4_hasTimeFor cX4_hasTimeFor 2 (some .boolean) 1 := ⟨wI_X4_hasTimeFor, wS_X4_hasTimeFor, wN_X4, wC_X4_hasTimeFor, by decide +kernel, by decide +kernel, by decide +kernel⟩
theorem mw_X4_letTimePass : MWv yX4_letTimePass cX4_letTimePass 3 none 1 := ⟨wI_X4_letTimePass, wS_X4_letTimePass, wN_X4, wC_X4_letTimePass, by decide +kernel, by decide +kernel, by decide +kernel⟩
theorem mw_X4_decayLoads : MWv yX4_decayLoads cX4_decayLoads 2 none 0 := ⟨wI_X4_decayLoads, wS_X4_decayLoads, wN_X4, wC_X4_decayLoads, by decide +kernel, by decide +kernel, by decide +kernel⟩
theorem mw_X2_decay : MWv yX2_decay cX2_decay 2 none 1 := ⟨wI_X2_decay, wS_X2_decay, wN_X2, wC_X2_decay, by decide +kernel, by decide +kernel, by decide +kernel⟩
theorem mw_X4_ageEntries : MWv yX4_ageEntries cX4_ageEntries 2 none 0 := ⟨wI_X4_ageEntries, wS_X4_ageEntries, wN_X4, wC_X4_ageEntries, by decide +kernel, by decide +kernel, by decide +kernel⟩
theorem mw_X0_growOlder : MWv yX0_growOlder cX0_growOlder 1 none 0 := ⟨wI_X0_growOlder, wS_X0_growOlder, wN_X0, wC_X0_growOlder, by decide +kernel, by decide +kernel, by decide +kernel⟩
theorem mw_X6_send : MWv yX6_send cX6_send 3 (some .int) 2 := ⟨wI_X6_send, wS_X6_send, wN_X6, wC_X6_send, by decide +kernel, by decide +kernel, by decide +kernel⟩
theorem mw_X6_isFlow : MWs yX6_isFlow cX6_isFlow 1 (some .boolean) 1 := ⟨wT_X6_isFlow, wN_X6, wC_X6_isFlow, by decide +kernel, by decide +kernel, by decide +kernel⟩
theorem mw_X6_isSize : MWs yX6_isSize cX6_isSize 1 (some .boolean) 1 := ⟨wT_X6_isSize, wN_X6, wC_X6_isSize, by decide +kernel, by decide +kernel, by decide +kernel⟩
theorem mw_X4_sendPacket : MWv yX4_sendPacket cX4_sendPacket 5 (some .int) 2 := ⟨wI_X4_sendPacket, wS_X4_sendPacket, wN_X4, wC_X4_sendPacket, by decide +kernel, by decide +kernel, by decide +kernel⟩
theorem mw_X4_pathFor : MWv yX4_pathFor cX4_pathFor 3 (some .int) 1 := ⟨wI_X4_pathFor, wS_X4_pathFor, wN_X4, wC_X4_pathFor, by decide +kernel, by decide +kernel, by decide +kernel⟩
theorem mw_X4_isInUse : MWv yX4_isInUse cX4_isInUse 2 (some .boolean) 1 := ⟨wI_X4_isInUse, wS_X4_isInUse, wN_X4, wC_X4_isInUse, by decide +kernel, by decide +kernel, by decide +kernel⟩
theorem mw_X4_leastCongestedPath : MWv yX4_leastCongestedPath cX4_leastCongestedPath 4 (some .int) 1 := ⟨wI_X4_leastCongestedPath, wS_X4_leastCongestedPath, wN_X4, wC_X4_leastCongestedPath, by decide +kernel, by decide +kernel, by decide +kernel⟩
theorem mw_X2_congestion : MWv yX2_congestion cX2_congestion 2 (some .int) 0 := ⟨wI_X2_congestion, wS_X2_congestion, wN_X2, wC_X2_congestion, by decide +kernel, by decide +kernel, by decide +kernel⟩
theorem mw_J9_max_7cf53 : MWs yJ9_max_7cf53 cJ9_max_7cf53 2 (some .int) 2 := ⟨wT_J9_max_7cf53, wN_J9, wC_J9_max_7cf53, by decide +kernel, by decide +kernel, by decide +kernel⟩
theorem mw_X4_randomPath : MWv yX4_randomPath cX4_randomPath 1 (some .int) 0 := ⟨wI_X4_randomPath, wS_X4_randomPath, wN_X4, wC_X4_randomPath, by decide +kernel, by decide +kernel, by decide +kernel⟩
theorem mw_X4_nextGenerator : MWv yX4_nextGenerator cX4_nextGenerator 1 (some .int) 0 := ⟨wI_X4_nextGenerator, wS_X4_nextGenerator, wN_X4, wC_X4_nextGenerator, by decide +kernel, by decide +kernel, by decide +kernel⟩
theorem mw_X4_noteChoice : MWv yX4_noteChoice cX4_noteChoice 3 none 2 := ⟨wI_X4_noteChoice, wS_X4_noteChoice, wN_X4, wC_X4_noteChoice, by decide +kernel, by decide +kernel, by decide +kernel⟩
theorem mw_X4_usesTable : MWv yX4_usesTable cX4_usesTable 1 (some .boolean) 0 := ⟨wI_X4_usesTable, wS_X4_usesTable, wN_X4, wC_X4_usesTable, by decide +kernel, by decide +kernel, by decide +kernel⟩
theorem mw_X4_noteInTable : MWv yX4_noteInTable cX4_noteInTable 4 none 2 := ⟨wI_X4_noteInTable, wS_X4_noteInTable, wN_X4, wC_X4_noteInTable, by decide +kernel, by decide +kernel, by decide +kernel⟩
theorem mw_X0_take : MWv yX0_take cX0_take 3 none 2 := ⟨wI_X0_take, wS_X0_take, wN_X0, wC_X0_take, by decide +kernel, by decide +kernel, by decide +kernel⟩
theorem mw_X4_pathAt : MWv yX4_pathAt cX4_pathAt 2 (some (.object RX2)) 1 := ⟨wI_X4_pathAt, wS_X4_pathAt, wN_X4, wC_X4_pathAt, by decide +kernel, by decide +kernel, by decide +kernel⟩
theorem mw_X2_dropsAt : MWv yX2_dropsAt cX2_dropsAt 2 (some .boolean) 1 := ⟨wI_X2_dropsAt, wS_X2_dropsAt, wN_X2, wC_X2_dropsAt, by decide +kernel, by decide +kernel, by decide +kernel⟩
theorem mw_X2_waitAt : MWv yX2_waitAt cX2_waitAt 2 (some .int) 1 := ⟨wI_X2_waitAt, wS_X2_waitAt, wN_X2, wC_X2_waitAt, by decide +kernel, by decide +kernel, by decide +kernel⟩
theorem mw_X2_ticksToArrive : MWv yX2_ticksToArrive cX2_ticksToArrive 3 (some .int) 2 := ⟨wI_X2_ticksToArrive, wS_X2_ticksToArrive, wN_X2, wC_X2_ticksToArrive, by decide +kernel, by decide +kernel, by decide +kernel⟩
theorem mw_X2_ticksToTransmit : MWv yX2_ticksToTransmit cX2_ticksToTransmit 2 (some .int) 1 := ⟨wI_X2_ticksToTransmit, wS_X2_ticksToTransmit, wN_X2, wC_X2_ticksToTransmit, by decide +kernel, by decide +kernel, by decide +kernel⟩
theorem mw_X1_deliver : MWv yX1_deliver cX1_deliver 3 none 2 := ⟨wI_X1_deliver, wS_X1_deliver, wN_X1, wC_X1_deliver, by decide +kernel, by decide +kernel, by decide +kernel⟩
theorem mw_X1_isOvertakenBy : MWv yX1_isOvertakenBy cX1_isOvertakenBy 2 (some .boolean) 1 := ⟨wI_X1_isOvertakenBy, wS_X1_isOvertakenBy, wN_X1, wC_X1_isOvertakenBy, by decide +kernel, by decide +kernel, by decide +kernel⟩
theorem mw_X2_transmit : MWv yX2_transmit cX2_transmit 3 none 2 := ⟨wI_X2_transmit, wS_X2_transmit, wN_X2, wC_X2_transmit, by decide +kernel, by decide +kernel, by decide +kernel⟩
theorem mw_X6_now : MWv yX6_now cX6_now 1 (some .int) 0 := ⟨wI_X6_now, wS_X6_now, wN_X6, wC_X6_now, by decide +kernel, by decide +kernel, by decide +kernel⟩
theorem mw_X6_entryOf : MWv yX6_entryOf cX6_entryOf 2 (some .int) 1 := ⟨wI_X6_entryOf, wS_X6_entryOf, wN_X6, wC_X6_entryOf, by decide +kernel, by decide +kernel, by decide +kernel⟩
theorem mw_X6_isActive : MWv yX6_isActive cX6_isActive 2 (some .int) 1 := ⟨wI_X6_isActive, wS_X6_isActive, wN_X6, wC_X6_isActive, by decide +kernel, by decide +kernel, by decide +kernel⟩
theorem mw_X4_hasEntry : MWv yX4_hasEntry cX4_hasEntry 2 (some .boolean) 1 := ⟨wI_X4_hasEntry, wS_X4_hasEntry, wN_X4, wC_X4_hasEntry, by decide +kernel, by decide +kernel, by decide +kernel⟩
theorem mw_X6_entryPath : MWv yX6_entryPath cX6_entryPath 2 (some .int) 1 := ⟨wI_X6_entryPath, wS_X6_entryPath, wN_X6, wC_X6_entryPath, by decide +kernel, by decide +kernel, by decide +kernel⟩
theorem mw_X6_ageBit : MWv yX6_ageBit cX6_ageBit 2 (some .int) 1 := ⟨wI_X6_ageBit, wS_X6_ageBit, wN_X6, wC_X6_ageBit, by decide +kernel, by decide +kernel, by decide +kernel⟩
theorem mw_X6_idleTime : MWv yX6_idleTime cX6_idleTime 2 (some .int) 1 := ⟨wI_X6_idleTime, wS_X6_idleTime, wN_X6, wC_X6_idleTime, by decide +kernel, by decide +kernel, by decide +kernel⟩
theorem mw_X0_isUnused : MWv yX0_isUnused cX0_isUnused 1 (some .boolean) 0 := ⟨wI_X0_isUnused, wS_X0_isUnused, wN_X0, wC_X0_isUnused, by decide +kernel, by decide +kernel, by decide +kernel⟩
theorem mw_X6_activeEntries : MWv yX6_activeEntries cX6_activeEntries 1 (some .int) 0 := ⟨wI_X6_activeEntries, wS_X6_activeEntries, wN_X6, wC_X6_activeEntries, by decide +kernel, by decide +kernel, by decide +kernel⟩
theorem mw_X4_countEntriesInUse : MWv yX4_countEntriesInUse cX4_countEntriesInUse 3 (some .int) 0 := ⟨wI_X4_countEntriesInUse, wS_X4_countEntriesInUse, wN_X4, wC_X4_countEntriesInUse, by decide +kernel, by decide +kernel, by decide +kernel⟩
theorem mw_X6_load : MWv yX6_load cX6_load 2 (some .int) 1 := ⟨wI_X6_load, wS_X6_load, wN_X6, wC_X6_load, by decide +kernel, by decide +kernel, by decide +kernel⟩
theorem mw_X6_metric : MWv yX6_metric cX6_metric 2 (some .int) 1 := ⟨wI_X6_metric, wS_X6_metric, wN_X6, wC_X6_metric, by decide +kernel, by decide +kernel, by decide +kernel⟩
theorem mw_X6_busyTime : MWv yX6_busyTime cX6_busyTime 2 (some .int) 1 := ⟨wI_X6_busyTime, wS_X6_busyTime, wN_X6, wC_X6_busyTime, by decide +kernel, by decide +kernel, by decide +kernel⟩
theorem mw_X6_latency : MWv yX6_latency cX6_latency 3 (some .int) 2 := ⟨wI_X6_latency, wS_X6_latency, wN_X6, wC_X6_latency, by decide +kernel, by decide +kernel, by decide +kernel⟩
theorem mw_X6_safeGap : MWv yX6_safeGap cX6_safeGap 2 (some .int) 1 := ⟨wI_X6_safeGap, wS_X6_safeGap, wN_X6, wC_X6_safeGap, by decide +kernel, by decide +kernel, by decide +kernel⟩
theorem mw_X4_spreadOfLatencies : MWv yX4_spreadOfLatencies cX4_spreadOfLatencies 6 (some .int) 1 := ⟨wI_X4_spreadOfLatencies, wS_X4_spreadOfLatencies, wN_X4, wC_X4_spreadOfLatencies, by decide +kernel, by decide +kernel, by decide +kernel⟩
theorem mw_X6_packets : MWv yX6_packets cX6_packets 2 (some .int) 1 := ⟨wI_X6_packets, wS_X6_packets, wN_X6, wC_X6_packets, by decide +kernel, by decide +kernel, by decide +kernel⟩
theorem mw_X6_bytes : MWv yX6_bytes cX6_bytes 2 (some .int) 1 := ⟨wI_X6_bytes, wS_X6_bytes, wN_X6, wC_X6_bytes, by decide +kernel, by decide +kernel, by decide +kernel⟩
theorem mw_X6_drops : MWv yX6_drops cX6_drops 2 (some .int) 1 := ⟨wI_X6_drops, wS_X6_drops, wN_X6, wC_X6_drops, by decide +kernel, by decide +kernel, by decide +kernel⟩
theorem mw_X6_imbalance : MWv yX6_imbalance cX6_imbalance 1 (some .int) 0 := ⟨wI_X6_imbalance, wS_X6_imbalance, wN_X6, wC_X6_imbalance, by decide +kernel, by decide +kernel, by decide +kernel⟩
theorem mw_X4_spreadOfBytes : MWv yX4_spreadOfBytes cX4_spreadOfBytes 4 (some .int) 0 := ⟨wI_X4_spreadOfBytes, wS_X4_spreadOfBytes, wN_X4, wC_X4_spreadOfBytes, by decide +kernel, by decide +kernel, by decide +kernel⟩
theorem mw_X6_nextPath : MWv yX6_nextPath cX6_nextPath 2 (some .int) 1 := ⟨wI_X6_nextPath, wS_X6_nextPath, wN_X6, wC_X6_nextPath, by decide +kernel, by decide +kernel, by decide +kernel⟩
theorem mw_X6_wouldReorder : MWv yX6_wouldReorder cX6_wouldReorder 3 (some .int) 2 := ⟨wI_X6_wouldReorder, wS_X6_wouldReorder, wN_X6, wC_X6_wouldReorder, by decide +kernel, by decide +kernel, by decide +kernel⟩
theorem mw_X4_wouldOvertake : MWv yX4_wouldOvertake cX4_wouldOvertake 4 (some .boolean) 2 := ⟨wI_X4_wouldOvertake, wS_X4_wouldOvertake, wN_X4, wC_X4_wouldOvertake, by decide +kernel, by decide +kernel, by decide +kernel⟩
theorem mw_X6_flowlets : MWv yX6_flowlets cX6_flowlets 2 (some .int) 1 := ⟨wI_X6_flowlets, wS_X6_flowlets, wN_X6, wC_X6_flowlets, by decide +kernel, by decide +kernel, by decide +kernel⟩
theorem mw_X6_pathChanges : MWv yX6_pathChanges cX6_pathChanges 2 (some .int) 1 := ⟨wI_X6_pathChanges, wS_X6_pathChanges, wN_X6, wC_X6_pathChanges, by decide +kernel, by decide +kernel, by decide +kernel⟩
theorem mw_X6_reordered : MWv yX6_reordered cX6_reordered 2 (some .int) 1 := ⟨wI_X6_reordered, wS_X6_reordered, wN_X6, wC_X6_reordered, by decide +kernel, by decide +kernel, by decide +kernel⟩
theorem mw_X6_lastArrival : MWv yX6_lastArrival cX6_lastArrival 2 (some .int) 1 := ⟨wI_X6_lastArrival, wS_X6_lastArrival, wN_X6, wC_X6_lastArrival, by decide +kernel, by decide +kernel, by decide +kernel⟩
theorem mw_X6_appendCharacter : MWv yX6_appendCharacter cX6_appendCharacter 2 (some .int) 1 := ⟨wI_X6_appendCharacter, wS_X6_appendCharacter, wN_X6, wC_X6_appendCharacter, by decide +kernel, by decide +kernel, by decide +kernel⟩
theorem mw_X5_isFull : MWv yX5_isFull cX5_isFull 1 (some .boolean) 0 := ⟨wI_X5_isFull, wS_X5_isFull, wN_X5, wC_X5_isFull, by decide +kernel, by decide +kernel, by decide +kernel⟩
theorem mw_X5_append : MWv yX5_append cX5_append 2 none 1 := ⟨wI_X5_append, wS_X5_append, wN_X5, wC_X5_append, by decide +kernel, by decide +kernel, by decide +kernel⟩
theorem mw_X6_clearText : MWv yX6_clearText cX6_clearText 2 (some .int) 0 := ⟨wI_X6_clearText, wS_X6_clearText, wN_X6, wC_X6_clearText, by decide +kernel, by decide +kernel, by decide +kernel⟩
theorem mw_X5_clear : MWv yX5_clear cX5_clear 1 none 0 := ⟨wI_X5_clear, wS_X5_clear, wN_X5, wC_X5_clear, by decide +kernel, by decide +kernel, by decide +kernel⟩
theorem mw_X6_runTrace : MWv yX6_runTrace cX6_runTrace 4 (some .int) 0 := ⟨wI_X6_runTrace, wS_X6_runTrace, wN_X6, wC_X6_runTrace, by decide +kernel, by decide +kernel, by decide +kernel⟩
theorem mw_X5_errorPosition : MWv yX5_errorPosition cX5_errorPosition 3 (some .int) 0 := ⟨wI_X5_errorPosition, wS_X5_errorPosition, wN_X5, wC_X5_errorPosition, by decide +kernel, by decide +kernel, by decide +kernel⟩
theorem mw_X5_rewind : MWv yX5_rewind cX5_rewind 1 none 0 := ⟨wI_X5_rewind, wS_X5_rewind, wN_X5, wC_X5_rewind, by decide +kernel, by decide +kernel, by decide +kernel⟩
theorem mw_X5_skipSpaces : MWv yX5_skipSpaces cX5_skipSpaces 1 none 0 := ⟨wI_X5_skipSpaces, wS_X5_skipSpaces, wN_X5, wC_X5_skipSpaces, by decide +kernel, by decide +kernel, by decide +kernel⟩
theorem mw_X5_codeHere : MWv yX5_codeHere cX5_codeHere 1 (some .int) 0 := ⟨wI_X5_codeHere, wS_X5_codeHere, wN_X5, wC_X5_codeHere, by decide +kernel, by decide +kernel, by decide +kernel⟩
theorem mw_X5_isAtEnd : MWv yX5_isAtEnd cX5_isAtEnd 1 (some .boolean) 0 := ⟨wI_X5_isAtEnd, wS_X5_isAtEnd, wN_X5, wC_X5_isAtEnd, by decide +kernel, by decide +kernel, by decide +kernel⟩
theorem mw_X5_readItem : MWv yX5_readItem cX5_readItem 1 (some .boolean) 0 := ⟨wI_X5_readItem, wS_X5_readItem, wN_X5, wC_X5_readItem, by decide +kernel, by decide +kernel, by decide +kernel⟩
theorem mw_X5_accept : MWv yX5_accept cX5_accept 2 (some .boolean) 1 := ⟨wI_X5_accept, wS_X5_accept, wN_X5, wC_X5_accept, by decide +kernel, by decide +kernel, by decide +kernel⟩
theorem mw_X5_readNumber : MWv yX5_readNumber cX5_readNumber 3 (some .int) 0 := ⟨wI_X5_readNumber, wS_X5_readNumber, wN_X5, wC_X5_readNumber, by decide +kernel, by decide +kernel, by decide +kernel⟩
theorem mw_X5_isDigitHere : MWv yX5_isDigitHere cX5_isDigitHere 1 (some .boolean) 0 := ⟨wI_X5_isDigitHere, wS_X5_isDigitHere, wN_X5, wC_X5_isDigitHere, by decide +kernel, by decide +kernel, by decide +kernel⟩
theorem mw_X6_undo : MWv yX6_undo cX6_undo 1 (some .int) 0 := ⟨wI_X6_undo, wS_X6_undo, wN_X6, wC_X6_undo, by decide +kernel, by decide +kernel, by decide +kernel⟩
theorem mw_X3_popInto : MWv yX3_popInto cX3_popInto 2 none 1 := ⟨wI_X3_popInto, wS_X3_popInto, wN_X3, wC_X3_popInto, by decide +kernel, by decide +kernel, by decide +kernel⟩
theorem mw_X6_save : MWv yX6_save cX6_save 2 (some .int) 1 := ⟨wI_X6_save, wS_X6_save, wN_X6, wC_X6_save, by decide +kernel, by decide +kernel, by decide +kernel⟩
theorem mw_X6_restore : MWv yX6_restore cX6_restore 2 (some .int) 1 := ⟨wI_X6_restore, wS_X6_restore, wN_X6, wC_X6_restore, by decide +kernel, by decide +kernel, by decide +kernel⟩
theorem mw_X3_discardAll : MWv yX3_discardAll cX3_discardAll 1 none 0 := ⟨wI_X3_discardAll, wS_X3_discardAll, wN_X3, wC_X3_discardAll, by decide +kernel, by decide +kernel, by decide +kernel⟩
theorem mw_X7_init : MWi yX7_init cX7_init 1 0 := ⟨wI_X7_init, wN_X7, wC_X7_init, rfl, by decide +kernel, by decide +kernel, by decide +kernel⟩
theorem mw_X7_configure : MWv yX7_configure cX7_configure 5 (some .int) 2 := ⟨wI_X7_configure, wS_X7_configure, wN_X7, wC_X7_configure, by decide +kernel, by decide +kernel, by decide +kernel⟩
theorem mw_X7_in : MWs yX7_in cX7_in 3 (some .boolean) 3 := ⟨wT_X7_in, wN_X7, wC_X7_in, by decide +kernel, by decide +kernel, by decide +kernel⟩
theorem mw_X7_setDelay : MWv yX7_setDelay cX7_setDelay 3 (some .int) 2 := ⟨wI_X7_setDelay, wS_X7_setDelay, wN_X7, wC_X7_setDelay, by decide +kernel, by decide +kernel, by decide +kernel⟩
theorem mw_X7_setRate : MWv yX7_setRate cX7_setRate 3 (some .int) 2 := ⟨wI_X7_setRate, wS_X7_setRate, wN_X7, wC_X7_setRate, by decide +kernel, by decide +kernel, by decide +kernel⟩
theorem mw_X7_setRemoteLevel : MWv yX7_setRemoteLevel cX7_setRemoteLevel 3 (some .int) 2 := ⟨wI_X7_setRemoteLevel, wS_X7_setRemoteLevel, wN_X7, wC_X7_setRemoteLevel, by decide +kernel, by decide +kernel, by decide +kernel⟩
theorem mw_X7_setMode : MWv yX7_setMode cX7_setMode 2 (some .int) 1 := ⟨wI_X7_setMode, wS_X7_setMode, wN_X7, wC_X7_setMode, by decide +kernel, by decide +kernel, by decide +kernel⟩
theorem mw_X7_setDetection : MWv yX7_setDetection cX7_setDetection 2 (some .int) 1 := ⟨wI_X7_setDetection, wS_X7_setDetection, wN_X7, wC_X7_setDetection, by decide +kernel, by decide +kernel, by decide +kernel⟩
theorem mw_X7_setGap : MWv yX7_setGap cX7_setGap 2 (some .int) 1 := ⟨wI_X7_setGap, wS_X7_setGap, wN_X7, wC_X7_setGap, by decide +kernel, by decide +kernel, by decide +kernel⟩
theorem mw_X7_setShift : MWv yX7_setShift cX7_setShift 2 (some .int) 1 := ⟨wI_X7_setShift, wS_X7_setShift, wN_X7, wC_X7_setShift, by decide +kernel, by decide +kernel, by decide +kernel⟩
theorem mw_X7_setGenerator : MWv yX7_setGenerator cX7_setGenerator 2 (some .int) 1 := ⟨wI_X7_setGenerator, wS_X7_setGenerator, wN_X7, wC_X7_setGenerator, by decide +kernel, by decide +kernel, by decide +kernel⟩
theorem mw_X7_advance : MWv yX7_advance cX7_advance 3 (some .int) 1 := ⟨wI_X7_advance, wS_X7_advance, wN_X7, wC_X7_advance, by decide +kernel, by decide +kernel, by decide +kernel⟩
theorem mw_X7_send : MWv yX7_send cX7_send 3 (some .int) 2 := ⟨wI_X7_send, wS_X7_send, wN_X7, wC_X7_send, by decide +kernel, by decide +kernel, by decide +kernel⟩
theorem mw_X7_isFlow : MWs yX7_isFlow cX7_isFlow 1 (some .boolean) 1 := ⟨wT_X7_isFlow, wN_X7, wC_X7_isFlow, by decide +kernel, by decide +kernel, by decide +kernel⟩
theorem mw_X7_isSize : MWs yX7_isSize cX7_isSize 1 (some .boolean) 1 := ⟨wT_X7_isSize, wN_X7, wC_X7_isSize, by decide +kernel, by decide +kernel, by decide +kernel⟩
theorem mw_X7_now : MWv yX7_now cX7_now 1 (some .int) 0 := ⟨wI_X7_now, wS_X7_now, wN_X7, wC_X7_now, by decide +kernel, by decide +kernel, by decide +kernel⟩
theorem mw_X7_entryOf : MWv yX7_entryOf cX7_entryOf 2 (some .int) 1 := ⟨wI_X7_entryOf, wS_X7_entryOf, wN_X7, wC_X7_entryOf, by decide +kernel, by decide +kernel, by decide +kernel⟩
theorem mw_X7_isActive : MWv yX7_isActive cX7_isActive 2 (some .int) 1 := ⟨wI_X7_isActive, wS_X7_isActive, wN_X7, wC_X7_isActive, by decide +kernel, by decide +kernel, by decide +kernel⟩
theorem mw_X7_entryPath : MWv yX7_entryPath cX7_entryPath 2 (some .int) 1 := ⟨wI_X7_entryPath, wS_X7_entryPath, wN_X7, wC_X7_entryPath, by decide +kernel, by decide +kernel, by decide +kernel⟩
theorem mw_X7_ageBit : MWv yX7_ageBit cX7_ageBit 2 (some .int) 1 := ⟨wI_X7_ageBit, wS_X7_ageBit, wN_X7, wC_X7_ageBit, by decide +kernel, by decide +kernel, by decide +kernel⟩
theorem mw_X7_idleTime : MWv yX7_idleTime cX7_idleTime 2 (some .int) 1 := ⟨wI_X7_idleTime, wS_X7_idleTime, wN_X7, wC_X7_idleTime, by decide +kernel, by decide +kernel, by decide +kernel⟩
theorem mw_X7_activeEntries : MWv yX7_activeEntries cX7_activeEntries 3 (some .int) 0 := ⟨wI_X7_activeEntries, wS_X7_activeEntries, wN_X7, wC_X7_activeEntries, by decide +kernel, by decide +kernel, by decide +kernel⟩
theorem mw_X7_load : MWv yX7_load cX7_load 2 (some .int) 1 := ⟨wI_X7_load, wS_X7_load, wN_X7, wC_X7_load, by decide +kernel, by decide +kernel, by decide +kernel⟩
theorem mw_X7_metric : MWv yX7_metric cX7_metric 2 (some .int) 1 := ⟨wI_X7_metric, wS_X7_metric, wN_X7, wC_X7_metric, by decide +kernel, by decide +kernel, by decide +kernel⟩
theorem mw_X7_busyTime : MWv yX7_busyTime cX7_busyTime 3 (some .int) 1 := ⟨wI_X7_busyTime, wS_X7_busyTime, wN_X7, wC_X7_busyTime, by decide +kernel, by decide +kernel, by decide +kernel⟩
theorem mw_X7_latency : MWv yX7_latency cX7_latency 3 (some .int) 2 := ⟨wI_X7_latency, wS_X7_latency, wN_X7, wC_X7_latency, by decide +kernel, by decide +kernel, by decide +kernel⟩
theorem mw_X7_safeGap : MWv yX7_safeGap cX7_safeGap 6 (some .int) 1 := ⟨wI_X7_safeGap, wS_X7_safeGap, wN_X7, wC_X7_safeGap, by decide +kernel, by decide +kernel, by decide +kernel⟩
theorem mw_X7_packets : MWv yX7_packets cX7_packets 2 (some .int) 1 := ⟨wI_X7_packets, wS_X7_packets, wN_X7, wC_X7_packets, by decide +kernel, by decide +kernel, by decide +kernel⟩
theorem mw_X7_bytes : MWv yX7_bytes cX7_bytes 2 (some .int) 1 := ⟨wI_X7_bytes, wS_X7_bytes, wN_X7, wC_X7_bytes, by decide +kernel, by decide +kernel, by decide +kernel⟩
theorem mw_X7_drops : MWv yX7_drops cX7_drops 2 (some .int) 1 := ⟨wI_X7_drops, wS_X7_drops, wN_X7, wC_X7_drops, by decide +kernel, by decide +kernel, by decide +kernel⟩
theorem mw_X7_imbalance : MWv yX7_imbalance cX7_imbalance 5 (some .int) 0 := ⟨wI_X7_imbalance, wS_X7_imbalance, wN_X7, wC_X7_imbalance, by decide +kernel, by decide +kernel, by decide +kernel⟩
theorem mw_X7_nextPath : MWv yX7_nextPath cX7_nextPath 2 (some .int) 1 := ⟨wI_X7_nextPath, wS_X7_nextPath, wN_X7, wC_X7_nextPath, by decide +kernel, by decide +kernel, by decide +kernel⟩
theorem mw_X7_wouldReorder : MWv yX7_wouldReorder cX7_wouldReorder 5 (some .int) 2 := ⟨wI_X7_wouldReorder, wS_X7_wouldReorder, wN_X7, wC_X7_wouldReorder, by decide +kernel, by decide +kernel, by decide +kernel⟩
theorem mw_X7_flowlets : MWv yX7_flowlets cX7_flowlets 2 (some .int) 1 := ⟨wI_X7_flowlets, wS_X7_flowlets, wN_X7, wC_X7_flowlets, by decide +kernel, by decide +kernel, by decide +kernel⟩
theorem mw_X7_pathChanges : MWv yX7_pathChanges cX7_pathChanges 2 (some .int) 1 := ⟨wI_X7_pathChanges, wS_X7_pathChanges, wN_X7, wC_X7_pathChanges, by decide +kernel, by decide +kernel, by decide +kernel⟩
theorem mw_X7_reordered : MWv yX7_reordered cX7_reordered 2 (some .int) 1 := ⟨wI_X7_reordered, wS_X7_reordered, wN_X7, wC_X7_reordered, by decide +kernel, by decide +kernel, by decide +kernel⟩
theorem mw_X7_lastArrival : MWv yX7_lastArrival cX7_lastArrival 2 (some .int) 1 := ⟨wI_X7_lastArrival, wS_X7_lastArrival, wN_X7, wC_X7_lastArrival, by decide +kernel, by decide +kernel, by decide +kernel⟩
theorem mw_X7_appendCharacter : MWv yX7_appendCharacter cX7_appendCharacter 2 (some .int) 1 := ⟨wI_X7_appendCharacter, wS_X7_appendCharacter, wN_X7, wC_X7_appendCharacter, by decide +kernel, by decide +kernel, by decide +kernel⟩
theorem mw_X7_clearText : MWv yX7_clearText cX7_clearText 2 (some .int) 0 := ⟨wI_X7_clearText, wS_X7_clearText, wN_X7, wC_X7_clearText, by decide +kernel, by decide +kernel, by decide +kernel⟩
theorem mw_X7_runTrace : MWv yX7_runTrace cX7_runTrace 3 (some .int) 0 := ⟨wI_X7_runTrace, wS_X7_runTrace, wN_X7, wC_X7_runTrace, by decide +kernel, by decide +kernel, by decide +kernel⟩
theorem mw_X7_undo : MWv yX7_undo cX7_undo 2 (some .int) 0 := ⟨wI_X7_undo, wS_X7_undo, wN_X7, wC_X7_undo, by decide +kernel, by decide +kernel, by decide +kernel⟩
theorem mw_X7_save : MWv yX7_save cX7_save 3 (some .int) 1 := ⟨wI_X7_save, wS_X7_save, wN_X7, wC_X7_save, by decide +kernel, by decide +kernel, by decide +kernel⟩
theorem mw_X7_restore : MWv yX7_restore cX7_restore 3 (some .int) 1 := ⟨wI_X7_restore, wS_X7_restore, wN_X7, wC_X7_restore, by decide +kernel, by decide +kernel, by decide +kernel⟩
